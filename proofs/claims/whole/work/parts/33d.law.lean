set_option maxHeartbeats 8000000 in
set_option maxRecDepth 100000 in
theorem w_L_law_1905 {E : Ex} {K : Kx} (C : Cx E K cL_law 9 (some .boolean) RL wsL_law rmL_law) {a0 : Nat → Nat} {a1 : Nat → Nat} {a2 : Nat → Nat} {a3 : Nat → Nat} {q4 : Nat} {ah4 : Nat → Nat → Nat} {a5 : Nat → Nat} {a6 : Nat → Nat} {a7 : Nat → Nat} {a8 : Nat → Nat} {a9 : Nat → Nat} {a10 : Nat → Nat} {a11 : Nat → Nat} {a12 : Nat → Nat} {a13 : Nat → Nat} {a14 : Nat → Nat} {q15 : Nat} {q16 : Nat} {a17 : Nat → Nat} {q18 : Nat} {q19 : Nat} {bS L : Nat} {xs : Nat → Int32} {Q : State → Prop} (T0 : TL E K) (S0 : SX bS L xs K) (HR : ∀ (c s : Nat) (lv : List (Nat × Value)) (gs : List va_W), c ≤ 601024 → s ≤ 7293034 → WW E K c s Q 2236 lv [.int 1] gs) {c s : Nat} (hc : c + 3 ≤ 601024) (hs : s + 18 ≤ 7293034) {k23 : Int32 → GWV → HouseV → HouseV → HistV → (Nat → HouseV) → HouseV → SightV → SightV → BestV → HouseV → SightV → IntrV → ToksV → QReadV → (Nat → Int32) → (Nat → Int32) → ModelV → (Nat → Int64) → Option Unit} (hk23 : ∀ (x4 : Int32) (v0 : GWV) (v1 : HouseV) (v2 : HouseV) (v3 : HistV) (v4 : Nat → HouseV) (v5 : HouseV) (v6 : SightV) (v7 : SightV) (v8 : BestV) (v9 : HouseV) (v10 : SightV) (v11 : IntrV) (v12 : ToksV) (v14 : QReadV) (v15 : Nat → Int32) (v16 : Nat → Int32) (v17 : ModelV) (v19 : Nat → Int64), k23 x4 v0 v1 v2 v3 v4 v5 v6 v7 v8 v9 v10 v11 v12 v14 v15 v16 v17 v19 = some () → WW E K (c + 3) (s + 18) Q 23 [(0, .ref bS), (1, .ref (a0 0)), (2, .ref (a17 0)), (3, .ref q19), (4, .int x4)] [] [wGW E a0 (rf10 (a1 0) (a2 0) (a3 0) (a6 0) (a7 0) (a8 0) (a11 0) (a12 0) (a13 0) (a14 0)) v0, wHouse E a1 v1, wHouse E a2 v2, wHist E a3 (rf2 q4 (a5 0)) v3, wHs E q4 ah4 v4, wHouse E a5 v5, wSight E a6 v6, wSight E a7 v7, wBest E a8 (rf2 (a9 0) (a10 0)) v8, wHouse E a9 v9, wSight E a10 v10, wIntr E a11 v11, wToks E a12 v12, wHRead E a13 (rf1 (a12 0)), wQRead E a14 (rf3 (a12 0) q15 q16) v14, wArr E q15 12 v15, wArr E q16 12 v16, wModel E a17 (rf2 (a17 1) q18) v17, wNm E q18, wLon E q19 v19]) {x4 : Int32} {v0 : GWV} {v1 : HouseV} {v2 : HouseV} {v3 : HistV} {v4 : Nat → HouseV} {v5 : HouseV} {v6 : SightV} {v7 : SightV} {v8 : BestV} {v9 : HouseV} {v10 : SightV} {v11 : IntrV} {v12 : ToksV} {v14 : QReadV} {v15 : Nat → Int32} {v16 : Nat → Int32} {v17 : ModelV} {v19 : Nat → Int64} (hf : Law_1905 L xs k23 x4 v0 v1 v2 v3 v4 v5 v6 v7 v8 v9 v10 v11 v12 v14 v15 v16 v17 v19 = some ()) : WW E K c s Q 1905 [(0, .ref bS), (1, .ref (a0 0)), (2, .ref (a17 0)), (3, .ref q19), (4, .int x4)] [] [wGW E a0 (rf10 (a1 0) (a2 0) (a3 0) (a6 0) (a7 0) (a8 0) (a11 0) (a12 0) (a13 0) (a14 0)) v0, wHouse E a1 v1, wHouse E a2 v2, wHist E a3 (rf2 q4 (a5 0)) v3, wHs E q4 ah4 v4, wHouse E a5 v5, wSight E a6 v6, wSight E a7 v7, wBest E a8 (rf2 (a9 0) (a10 0)) v8, wHouse E a9 v9, wSight E a10 v10, wIntr E a11 v11, wToks E a12 v12, wHRead E a13 (rf1 (a12 0)), wQRead E a14 (rf3 (a12 0) q15 q16) v14, wArr E q15 12 v15, wArr E q16 12 v16, wModel E a17 (rf2 (a17 1) q18) v17, wNm E q18, wLon E q19 v19] := by
  rw [Law_1905] at hf
  refine ww_aload_n C dL_law_1905 rfl 1 rfl ?_
  refine ww_aload_n C dL_law_1906 rfl 0 rfl ?_
  refine ww_iload C dL_law_1907 4 rfl ?_
  refine ww_iconst (v := 1) C dL_law_1909 (by decide) ?_
  refine ww_iadd C dL_law_1910 ?_
  obtain ⟨g_25, hf⟩ := gdE hf
  refine ww_sld C S0 (inB_vp g_25) dL_law_1911 ?_
  refine ww_aload_n C dL_law_1912 rfl 3 rfl ?_
  obtain ⟨p1913, hp1913, hf⟩ := bdE hf
  refine ww_callSL C T0 (As := [.ref (a0 0), .int (xs (Int32.toNatClampNeg (x4 + 1))), .ref q19]) (st := []) (gr := [wHouse E a2 v2, wHouse E a5 v5, wSight E a6 v6, wSight E a7 v7, wBest E a8 (rf2 (a9 0) (a10 0)) v8, wHouse E a9 v9, wSight E a10 v10, wIntr E a11 v11, wToks E a12 v12, wHRead E a13 (rf1 (a12 0)), wQRead E a14 (rf3 (a12 0) q15 q16) v14, wArr E q15 12 v15, wArr E q16 12 v16, wModel E a17 (rf2 (a17 1) q18) v17, wNm E q18]) (c_L_openDoor (E := E) (a0 := a0) (h0_1 := a2 0) (h0_3 := a6 0) (h0_4 := a7 0) (h0_5 := a8 0) (h0_6 := a11 0) (h0_7 := a12 0) (h0_8 := a13 0) (h0_9 := a14 0) (a1 := a1) (a2 := a3) (h2_1 := a5 0) (q3 := q4) (ah3 := ah4) (q4 := q19) hp1913) gL_law_L_openDoor rfl ysk_L_openDoor ⟨by decide, by decide⟩ ⟨by show c + 1 ≤ 601024; omega, by show s + 6 ≤ 7293034; omega⟩ [0, 1, 3, 4, 19] [2, 5, 6, 7, 8, 9, 10, 11, 12, 13, 14, 15, 16, 17, 18] 20 rfl (by decide) rfl rfl (Nat.le_of_ble_eq_true rfl) dL_law_1913 ?_
  rintro _ _ ⟨rfl, rfl⟩
  refine ww_perm (gs' := [wGW E a0 (rf10 (a1 0) (a2 0) (a3 0) (a6 0) (a7 0) (a8 0) (a11 0) (a12 0) (a13 0) (a14 0)) v0, wHouse E a1 p1913.2.1, wHouse E a2 v2, wHist E a3 (rf2 q4 (a5 0)) p1913.2.2.1, wHs E q4 ah4 p1913.2.2.2.1, wHouse E a5 v5, wSight E a6 v6, wSight E a7 v7, wBest E a8 (rf2 (a9 0) (a10 0)) v8, wHouse E a9 v9, wSight E a10 v10, wIntr E a11 v11, wToks E a12 v12, wHRead E a13 (rf1 (a12 0)), wQRead E a14 (rf3 (a12 0) q15 q16) v14, wArr E q15 12 v15, wArr E q16 12 v16, wModel E a17 (rf2 (a17 1) q18) v17, wNm E q18, wLon E q19 p1913.2.2.2.2]) [0, 1, 5, 2, 3, 6, 7, 8, 9, 10, 11, 12, 13, 14, 15, 16, 17, 18, 19, 4] 20 rfl (by decide) rfl ?_
  refine ww_istore (lv' := [(5, .int p1913.1), (0, .ref bS), (1, .ref (a0 0)), (2, .ref (a17 0)), (3, .ref q19), (4, .int x4)]) C dL_law_1916 (by decide) rfl ?_
  refine ww_aload_n C dL_law_1918 rfl 3 rfl ?_
  refine ww_aload_n C dL_law_1919 rfl 1 rfl ?_
  refine ww_iload C dL_law_1920 5 rfl ?_
  refine ww_iconst (v := 1) C dL_law_1922 (by decide) ?_
  refine ww_iadd C dL_law_1923 ?_
  refine ww_sld C S0 (inB_vp g_25) dL_law_1924 ?_
  obtain ⟨p1925, hp1925, hf⟩ := bdE hf
  refine ww_callV C (As := [.int (xs (Int32.toNatClampNeg (x4 + 1)))]) (st := []) (gr := [wGW E a0 (rf10 (a1 0) (a2 0) (a3 0) (a6 0) (a7 0) (a8 0) (a11 0) (a12 0) (a13 0) (a14 0)) v0, wHouse E a1 p1913.2.1, wHouse E a2 v2, wHist E a3 (rf2 q4 (a5 0)) p1913.2.2.1, wHs E q4 ah4 p1913.2.2.2.1, wHouse E a5 v5, wSight E a6 v6, wSight E a7 v7, wBest E a8 (rf2 (a9 0) (a10 0)) v8, wHouse E a9 v9, wSight E a10 v10, wIntr E a11 v11, wToks E a12 v12, wHRead E a13 (rf1 (a12 0)), wQRead E a14 (rf3 (a12 0) q15 q16) v14, wArr E q15 12 v15, wArr E q16 12 v16, wNm E q18, wLon E q19 p1913.2.2.2.2]) (c_X9_openDoor (E := E) (a0 := a17) (h0_1 := q18) hp1925) gL_law_X9_openDoor rfl yk_X9_openDoor ⟨by decide, by decide⟩ ⟨by show c + 1 + 0 ≤ 601024; omega, by show s + 6 + 0 ≤ 7293034; omega⟩ clOK9 0 0 rfl rfl [17] [0, 1, 2, 3, 4, 5, 6, 7, 8, 9, 10, 11, 12, 13, 14, 15, 16, 18, 19] 20 rfl (by decide) rfl rfl (Nat.le_of_ble_eq_true rfl) dL_law_1925 ?_
  rintro _ _ ⟨rfl, rfl⟩
  refine ww_perm (gs' := [wGW E a0 (rf10 (a1 0) (a2 0) (a3 0) (a6 0) (a7 0) (a8 0) (a11 0) (a12 0) (a13 0) (a14 0)) v0, wHouse E a1 p1913.2.1, wHouse E a2 v2, wHist E a3 (rf2 q4 (a5 0)) p1913.2.2.1, wHs E q4 ah4 p1913.2.2.2.1, wHouse E a5 v5, wSight E a6 v6, wSight E a7 v7, wBest E a8 (rf2 (a9 0) (a10 0)) v8, wHouse E a9 v9, wSight E a10 v10, wIntr E a11 v11, wToks E a12 v12, wHRead E a13 (rf1 (a12 0)), wQRead E a14 (rf3 (a12 0) q15 q16) v14, wArr E q15 12 v15, wArr E q16 12 v16, wModel E a17 (rf2 (a17 1) q18) p1925.2, wNm E q18, wLon E q19 p1913.2.2.2.2]) [1, 2, 3, 4, 5, 6, 7, 8, 9, 10, 11, 12, 13, 14, 15, 16, 17, 0, 18, 19] 20 rfl (by decide) rfl ?_
  refine ww_istore (lv' := [(6, .int p1925.1), (5, .int p1913.1), (0, .ref bS), (1, .ref (a0 0)), (2, .ref (a17 0)), (3, .ref q19), (4, .int x4)]) C dL_law_1928 (by decide) rfl ?_
  refine ww_aload_n C dL_law_1930 rfl 4 rfl ?_
  obtain ⟨p1931, hp1931, hf⟩ := bdE hf
  refine ww_callV C (As := []) (st := []) (gr := [wGW E a0 (rf10 (a1 0) (a2 0) (a3 0) (a6 0) (a7 0) (a8 0) (a11 0) (a12 0) (a13 0) (a14 0)) v0, wHouse E a1 p1913.2.1, wHouse E a2 v2, wHist E a3 (rf2 q4 (a5 0)) p1913.2.2.1, wHs E q4 ah4 p1913.2.2.2.1, wHouse E a5 v5, wSight E a6 v6, wSight E a7 v7, wBest E a8 (rf2 (a9 0) (a10 0)) v8, wHouse E a9 v9, wSight E a10 v10, wIntr E a11 v11, wToks E a12 v12, wHRead E a13 (rf1 (a12 0)), wQRead E a14 (rf3 (a12 0) q15 q16) v14, wArr E q15 12 v15, wArr E q16 12 v16, wNm E q18, wLon E q19 p1913.2.2.2.2]) (c_X9_thrown (E := E) (a0 := a17) (h0_0 := a17 1) (h0_1 := q18) hp1931) gL_law_X9_thrown rfl yk_X9_thrown ⟨by decide, by decide⟩ ⟨by show c + 1 + 0 + 0 ≤ 601024; omega, by show s + 6 + 0 + 0 ≤ 7293034; omega⟩ clOK9 0 0 rfl rfl [17] [0, 1, 2, 3, 4, 5, 6, 7, 8, 9, 10, 11, 12, 13, 14, 15, 16, 18, 19] 20 rfl (by decide) rfl rfl (Nat.le_of_ble_eq_true rfl) dL_law_1931 ?_
  rintro _ _ ⟨rfl, rfl⟩
  refine ww_perm (gs' := [wGW E a0 (rf10 (a1 0) (a2 0) (a3 0) (a6 0) (a7 0) (a8 0) (a11 0) (a12 0) (a13 0) (a14 0)) v0, wHouse E a1 p1913.2.1, wHouse E a2 v2, wHist E a3 (rf2 q4 (a5 0)) p1913.2.2.1, wHs E q4 ah4 p1913.2.2.2.1, wHouse E a5 v5, wSight E a6 v6, wSight E a7 v7, wBest E a8 (rf2 (a9 0) (a10 0)) v8, wHouse E a9 v9, wSight E a10 v10, wIntr E a11 v11, wToks E a12 v12, wHRead E a13 (rf1 (a12 0)), wQRead E a14 (rf3 (a12 0) q15 q16) v14, wArr E q15 12 v15, wArr E q16 12 v16, wModel E a17 (rf2 (a17 1) q18) p1925.2, wNm E q18, wLon E q19 p1913.2.2.2.2]) [1, 2, 3, 4, 5, 6, 7, 8, 9, 10, 11, 12, 13, 14, 15, 16, 17, 0, 18, 19] 20 rfl (by decide) rfl ?_
  refine ww_iload C dL_law_1934 1 rfl ?_
  refine ww_icmp_eq (tgt := 1941) C dL_law_1936 (by decide) (fun c_26 => ?_) (fun c_26 => ?_)
  · replace hf := ifT c_26 hf
    refine ww_iload C dL_law_1941 1 rfl ?_
    refine ww_if_ne (tgt := 1958) C dL_law_1943 (by decide) (fun c_27 => ?_) (fun c_27 => ?_)
    · replace hf := ifF c_27 hf
      refine ww_goto (tgt := 2229) C dL_law_1958 (by decide) ?_
      obtain ⟨x4_2229, e_x4_2229⟩ : ∃ y : Int32, y = x4 + 6 := ⟨_, rfl⟩
      replace hf := ltE e_x4_2229 hf
      refine ww_iinc (v := x4_2229) (lv' := [(4, .int x4_2229), (6, .int p1925.1), (5, .int p1913.1), (0, .ref bS), (1, .ref (a0 0)), (2, .ref (a17 0)), (3, .ref q19)]) C dL_law_2229 6 rfl (by rw [e_x4_2229]; rfl) (by decide) rfl ?_
      refine ww_goto (tgt := 23) C dL_law_2232 (by decide) ?_
      refine ww_sub C (lv' := [(0, .ref bS), (1, .ref (a0 0)), (2, .ref (a17 0)), (3, .ref q19), (4, .int x4_2229)]) [3, 4, 5, 6, 0] rfl ?_
      refine ww_widen (k := c + 3) (n := s + 18) (by show c + 1 + 0 + 0 ≤ c + 3; omega) (by show s + 6 + 0 + 0 ≤ s + 18; omega) ?_
      exact hk23 _ _ _ _ _ _ _ _ _ _ _ _ _ _ _ _ _ _ _ hf
    · replace hf := ifT c_27 hf
      refine ww_aload_n C dL_law_1946 rfl 5 rfl ?_
      refine ww_iconst (v := 0) C dL_law_1947 (by decide) ?_
      obtain ⟨g_28, hf⟩ := gdE hf
      refine ww_lald C (f := p1913.2.2.2.2) (w := wLon E q19 p1913.2.2.2.2) 19 0 rfl q_Lon (inB_vp g_28) dL_law_1948 ?_
      refine ww_iload C dL_law_1949 0 rfl ?_
      refine ww_i2l C dL_law_1951 ?_
      refine ww_lcmp C dL_law_1952 ?_
      refine ww_if_eq (tgt := 1958) C dL_law_1953 (by decide) (fun c_29 => ?_) (fun c_29 => ?_)
      · replace hf := ifT c_29 hf
        refine ww_goto (tgt := 2229) C dL_law_1958 (by decide) ?_
        obtain ⟨x4_2229, e_x4_2229⟩ : ∃ y : Int32, y = x4 + 6 := ⟨_, rfl⟩
        replace hf := ltE e_x4_2229 hf
        refine ww_iinc (v := x4_2229) (lv' := [(4, .int x4_2229), (6, .int p1925.1), (5, .int p1913.1), (0, .ref bS), (1, .ref (a0 0)), (2, .ref (a17 0)), (3, .ref q19)]) C dL_law_2229 6 rfl (by rw [e_x4_2229]; rfl) (by decide) rfl ?_
        refine ww_goto (tgt := 23) C dL_law_2232 (by decide) ?_
        refine ww_sub C (lv' := [(0, .ref bS), (1, .ref (a0 0)), (2, .ref (a17 0)), (3, .ref q19), (4, .int x4_2229)]) [3, 4, 5, 6, 0] rfl ?_
        refine ww_widen (k := c + 3) (n := s + 18) (by show c + 1 + 0 + 0 ≤ c + 3; omega) (by show s + 6 + 0 + 0 ≤ s + 18; omega) ?_
        exact hk23 _ _ _ _ _ _ _ _ _ _ _ _ _ _ _ _ _ _ _ hf
      · replace hf := ifF c_29 hf
        refine ww_iconst (v := 0) C dL_law_1956 (by decide) ?_
        cases hf
  · replace hf := ifF c_26 hf
    refine ww_iconst (v := 0) C dL_law_1939 (by decide) ?_
    cases hf

set_option maxHeartbeats 8000000 in
set_option maxRecDepth 100000 in
theorem w_L_law_1961 {E : Ex} {K : Kx} (C : Cx E K cL_law 9 (some .boolean) RL wsL_law rmL_law) {a0 : Nat → Nat} {a1 : Nat → Nat} {a2 : Nat → Nat} {a3 : Nat → Nat} {q4 : Nat} {ah4 : Nat → Nat → Nat} {a5 : Nat → Nat} {a6 : Nat → Nat} {a7 : Nat → Nat} {a8 : Nat → Nat} {a9 : Nat → Nat} {a10 : Nat → Nat} {a11 : Nat → Nat} {a12 : Nat → Nat} {a13 : Nat → Nat} {a14 : Nat → Nat} {q15 : Nat} {q16 : Nat} {a17 : Nat → Nat} {q18 : Nat} {q19 : Nat} {bS L : Nat} {xs : Nat → Int32} {Q : State → Prop} (T0 : TL E K) (S0 : SX bS L xs K) (HR : ∀ (c s : Nat) (lv : List (Nat × Value)) (gs : List va_W), c ≤ 601024 → s ≤ 7293034 → WW E K c s Q 2236 lv [.int 1] gs) {c s : Nat} (hc : c + 3 ≤ 601024) (hs : s + 18 ≤ 7293034) {k23 : Int32 → GWV → HouseV → HouseV → HistV → (Nat → HouseV) → HouseV → SightV → SightV → BestV → HouseV → SightV → IntrV → ToksV → QReadV → (Nat → Int32) → (Nat → Int32) → ModelV → (Nat → Int64) → Option Unit} (hk23 : ∀ (x4 : Int32) (v0 : GWV) (v1 : HouseV) (v2 : HouseV) (v3 : HistV) (v4 : Nat → HouseV) (v5 : HouseV) (v6 : SightV) (v7 : SightV) (v8 : BestV) (v9 : HouseV) (v10 : SightV) (v11 : IntrV) (v12 : ToksV) (v14 : QReadV) (v15 : Nat → Int32) (v16 : Nat → Int32) (v17 : ModelV) (v19 : Nat → Int64), k23 x4 v0 v1 v2 v3 v4 v5 v6 v7 v8 v9 v10 v11 v12 v14 v15 v16 v17 v19 = some () → WW E K (c + 3) (s + 18) Q 23 [(0, .ref bS), (1, .ref (a0 0)), (2, .ref (a17 0)), (3, .ref q19), (4, .int x4)] [] [wGW E a0 (rf10 (a1 0) (a2 0) (a3 0) (a6 0) (a7 0) (a8 0) (a11 0) (a12 0) (a13 0) (a14 0)) v0, wHouse E a1 v1, wHouse E a2 v2, wHist E a3 (rf2 q4 (a5 0)) v3, wHs E q4 ah4 v4, wHouse E a5 v5, wSight E a6 v6, wSight E a7 v7, wBest E a8 (rf2 (a9 0) (a10 0)) v8, wHouse E a9 v9, wSight E a10 v10, wIntr E a11 v11, wToks E a12 v12, wHRead E a13 (rf1 (a12 0)), wQRead E a14 (rf3 (a12 0) q15 q16) v14, wArr E q15 12 v15, wArr E q16 12 v16, wModel E a17 (rf2 (a17 1) q18) v17, wNm E q18, wLon E q19 v19]) {x4 : Int32} {v0 : GWV} {v1 : HouseV} {v2 : HouseV} {v3 : HistV} {v4 : Nat → HouseV} {v5 : HouseV} {v6 : SightV} {v7 : SightV} {v8 : BestV} {v9 : HouseV} {v10 : SightV} {v11 : IntrV} {v12 : ToksV} {v14 : QReadV} {v15 : Nat → Int32} {v16 : Nat → Int32} {v17 : ModelV} {v19 : Nat → Int64} (hf : Law_1961 L xs k23 x4 v0 v1 v2 v3 v4 v5 v6 v7 v8 v9 v10 v11 v12 v14 v15 v16 v17 v19 = some ()) : WW E K c s Q 1961 [(0, .ref bS), (1, .ref (a0 0)), (2, .ref (a17 0)), (3, .ref q19), (4, .int x4)] [] [wGW E a0 (rf10 (a1 0) (a2 0) (a3 0) (a6 0) (a7 0) (a8 0) (a11 0) (a12 0) (a13 0) (a14 0)) v0, wHouse E a1 v1, wHouse E a2 v2, wHist E a3 (rf2 q4 (a5 0)) v3, wHs E q4 ah4 v4, wHouse E a5 v5, wSight E a6 v6, wSight E a7 v7, wBest E a8 (rf2 (a9 0) (a10 0)) v8, wHouse E a9 v9, wSight E a10 v10, wIntr E a11 v11, wToks E a12 v12, wHRead E a13 (rf1 (a12 0)), wQRead E a14 (rf3 (a12 0) q15 q16) v14, wArr E q15 12 v15, wArr E q16 12 v16, wModel E a17 (rf2 (a17 1) q18) v17, wNm E q18, wLon E q19 v19] := by
  rw [Law_1961] at hf
  refine ww_aload_n C dL_law_1961 rfl 1 rfl ?_
  refine ww_aload_n C dL_law_1962 rfl 0 rfl ?_
  refine ww_iload C dL_law_1963 4 rfl ?_
  refine ww_iconst (v := 1) C dL_law_1965 (by decide) ?_
  refine ww_iadd C dL_law_1966 ?_
  obtain ⟨g_19, hf⟩ := gdE hf
  refine ww_sld C S0 (inB_vp g_19) dL_law_1967 ?_
  refine ww_aload_n C dL_law_1968 rfl 0 rfl ?_
  refine ww_iload C dL_law_1969 4 rfl ?_
  refine ww_iconst (v := 2) C dL_law_1971 (by decide) ?_
  refine ww_iadd C dL_law_1972 ?_
  obtain ⟨g_20, hf⟩ := gdE hf
  refine ww_sld C S0 (inB_vp g_20) dL_law_1973 ?_
  refine ww_aload_n C dL_law_1974 rfl 3 rfl ?_
  obtain ⟨p1975, hp1975, hf⟩ := bdE hf
  refine ww_callSL C T0 (As := [.ref (a0 0), .int (xs (Int32.toNatClampNeg (x4 + 1))), .int (xs (Int32.toNatClampNeg (x4 + 2))), .ref q19]) (st := []) (gr := [wHouse E a2 v2, wHouse E a5 v5, wSight E a7 v7, wBest E a8 (rf2 (a9 0) (a10 0)) v8, wHouse E a9 v9, wSight E a10 v10, wIntr E a11 v11, wToks E a12 v12, wHRead E a13 (rf1 (a12 0)), wQRead E a14 (rf3 (a12 0) q15 q16) v14, wArr E q15 12 v15, wArr E q16 12 v16, wModel E a17 (rf2 (a17 1) q18) v17, wNm E q18]) (c_L_setLimit (E := E) (a0 := a0) (h0_1 := a2 0) (h0_4 := a7 0) (h0_5 := a8 0) (h0_6 := a11 0) (h0_7 := a12 0) (h0_8 := a13 0) (h0_9 := a14 0) (a1 := a1) (a2 := a3) (h2_1 := a5 0) (q3 := q4) (ah3 := ah4) (a4 := a6) (q5 := q19) hp1975) gL_law_L_setLimit rfl ysk_L_setLimit ⟨by decide, by decide⟩ ⟨by show c + 2 ≤ 601024; omega, by show s + 12 ≤ 7293034; omega⟩ [0, 1, 3, 4, 6, 19] [2, 5, 7, 8, 9, 10, 11, 12, 13, 14, 15, 16, 17, 18] 20 rfl (by decide) rfl rfl (Nat.le_of_ble_eq_true rfl) dL_law_1975 ?_
  rintro _ _ ⟨rfl, rfl⟩
  refine ww_perm (gs' := [wGW E a0 (rf10 (a1 0) (a2 0) (a3 0) (a6 0) (a7 0) (a8 0) (a11 0) (a12 0) (a13 0) (a14 0)) v0, wHouse E a1 p1975.2.1, wHouse E a2 v2, wHist E a3 (rf2 q4 (a5 0)) p1975.2.2.1, wHs E q4 ah4 p1975.2.2.2.1, wHouse E a5 v5, wSight E a6 p1975.2.2.2.2.1, wSight E a7 v7, wBest E a8 (rf2 (a9 0) (a10 0)) v8, wHouse E a9 v9, wSight E a10 v10, wIntr E a11 v11, wToks E a12 v12, wHRead E a13 (rf1 (a12 0)), wQRead E a14 (rf3 (a12 0) q15 q16) v14, wArr E q15 12 v15, wArr E q16 12 v16, wModel E a17 (rf2 (a17 1) q18) v17, wNm E q18, wLon E q19 p1975.2.2.2.2.2]) [0, 1, 6, 2, 3, 7, 4, 8, 9, 10, 11, 12, 13, 14, 15, 16, 17, 18, 19, 5] 20 rfl (by decide) rfl ?_
  refine ww_istore (lv' := [(5, .int p1975.1), (0, .ref bS), (1, .ref (a0 0)), (2, .ref (a17 0)), (3, .ref q19), (4, .int x4)]) C dL_law_1978 (by decide) rfl ?_
  refine ww_aload_n C dL_law_1980 rfl 3 rfl ?_
  refine ww_aload_n C dL_law_1981 rfl 1 rfl ?_
  refine ww_iload C dL_law_1982 5 rfl ?_
  refine ww_iconst (v := 1) C dL_law_1984 (by decide) ?_
  refine ww_iadd C dL_law_1985 ?_
  refine ww_sld C S0 (inB_vp g_19) dL_law_1986 ?_
  refine ww_aload_n C dL_law_1987 rfl 1 rfl ?_
  refine ww_iload C dL_law_1988 5 rfl ?_
  refine ww_iconst (v := 2) C dL_law_1990 (by decide) ?_
  refine ww_iadd C dL_law_1991 ?_
  refine ww_sld C S0 (inB_vp g_20) dL_law_1992 ?_
  obtain ⟨p1993, hp1993, hf⟩ := bdE hf
  refine ww_callV C (As := [.int (xs (Int32.toNatClampNeg (x4 + 1))), .int (xs (Int32.toNatClampNeg (x4 + 2)))]) (st := []) (gr := [wGW E a0 (rf10 (a1 0) (a2 0) (a3 0) (a6 0) (a7 0) (a8 0) (a11 0) (a12 0) (a13 0) (a14 0)) v0, wHouse E a1 p1975.2.1, wHouse E a2 v2, wHist E a3 (rf2 q4 (a5 0)) p1975.2.2.1, wHs E q4 ah4 p1975.2.2.2.1, wHouse E a5 v5, wSight E a6 p1975.2.2.2.2.1, wSight E a7 v7, wBest E a8 (rf2 (a9 0) (a10 0)) v8, wHouse E a9 v9, wSight E a10 v10, wIntr E a11 v11, wToks E a12 v12, wHRead E a13 (rf1 (a12 0)), wQRead E a14 (rf3 (a12 0) q15 q16) v14, wArr E q15 12 v15, wArr E q16 12 v16, wNm E q18, wLon E q19 p1975.2.2.2.2.2]) (c_X9_setLimit (E := E) (a0 := a17) (h0_1 := q18) hp1993) gL_law_X9_setLimit rfl yk_X9_setLimit ⟨by decide, by decide⟩ ⟨by show c + 2 + 0 ≤ 601024; omega, by show s + 12 + 0 ≤ 7293034; omega⟩ clOK9 0 0 rfl rfl [17] [0, 1, 2, 3, 4, 5, 6, 7, 8, 9, 10, 11, 12, 13, 14, 15, 16, 18, 19] 20 rfl (by decide) rfl rfl (Nat.le_of_ble_eq_true rfl) dL_law_1993 ?_
  rintro _ _ ⟨rfl, rfl⟩
  refine ww_perm (gs' := [wGW E a0 (rf10 (a1 0) (a2 0) (a3 0) (a6 0) (a7 0) (a8 0) (a11 0) (a12 0) (a13 0) (a14 0)) v0, wHouse E a1 p1975.2.1, wHouse E a2 v2, wHist E a3 (rf2 q4 (a5 0)) p1975.2.2.1, wHs E q4 ah4 p1975.2.2.2.1, wHouse E a5 v5, wSight E a6 p1975.2.2.2.2.1, wSight E a7 v7, wBest E a8 (rf2 (a9 0) (a10 0)) v8, wHouse E a9 v9, wSight E a10 v10, wIntr E a11 v11, wToks E a12 v12, wHRead E a13 (rf1 (a12 0)), wQRead E a14 (rf3 (a12 0) q15 q16) v14, wArr E q15 12 v15, wArr E q16 12 v16, wModel E a17 (rf2 (a17 1) q18) p1993.2, wNm E q18, wLon E q19 p1975.2.2.2.2.2]) [1, 2, 3, 4, 5, 6, 7, 8, 9, 10, 11, 12, 13, 14, 15, 16, 17, 0, 18, 19] 20 rfl (by decide) rfl ?_
  refine ww_istore (lv' := [(6, .int p1993.1), (5, .int p1975.1), (0, .ref bS), (1, .ref (a0 0)), (2, .ref (a17 0)), (3, .ref q19), (4, .int x4)]) C dL_law_1996 (by decide) rfl ?_
  refine ww_aload_n C dL_law_1998 rfl 4 rfl ?_
  obtain ⟨p1999, hp1999, hf⟩ := bdE hf
  refine ww_callV C (As := []) (st := []) (gr := [wGW E a0 (rf10 (a1 0) (a2 0) (a3 0) (a6 0) (a7 0) (a8 0) (a11 0) (a12 0) (a13 0) (a14 0)) v0, wHouse E a1 p1975.2.1, wHouse E a2 v2, wHist E a3 (rf2 q4 (a5 0)) p1975.2.2.1, wHs E q4 ah4 p1975.2.2.2.1, wHouse E a5 v5, wSight E a6 p1975.2.2.2.2.1, wSight E a7 v7, wBest E a8 (rf2 (a9 0) (a10 0)) v8, wHouse E a9 v9, wSight E a10 v10, wIntr E a11 v11, wToks E a12 v12, wHRead E a13 (rf1 (a12 0)), wQRead E a14 (rf3 (a12 0) q15 q16) v14, wArr E q15 12 v15, wArr E q16 12 v16, wNm E q18, wLon E q19 p1975.2.2.2.2.2]) (c_X9_thrown (E := E) (a0 := a17) (h0_0 := a17 1) (h0_1 := q18) hp1999) gL_law_X9_thrown rfl yk_X9_thrown ⟨by decide, by decide⟩ ⟨by show c + 2 + 0 + 0 ≤ 601024; omega, by show s + 12 + 0 + 0 ≤ 7293034; omega⟩ clOK9 0 0 rfl rfl [17] [0, 1, 2, 3, 4, 5, 6, 7, 8, 9, 10, 11, 12, 13, 14, 15, 16, 18, 19] 20 rfl (by decide) rfl rfl (Nat.le_of_ble_eq_true rfl) dL_law_1999 ?_
  rintro _ _ ⟨rfl, rfl⟩
  refine ww_perm (gs' := [wGW E a0 (rf10 (a1 0) (a2 0) (a3 0) (a6 0) (a7 0) (a8 0) (a11 0) (a12 0) (a13 0) (a14 0)) v0, wHouse E a1 p1975.2.1, wHouse E a2 v2, wHist E a3 (rf2 q4 (a5 0)) p1975.2.2.1, wHs E q4 ah4 p1975.2.2.2.1, wHouse E a5 v5, wSight E a6 p1975.2.2.2.2.1, wSight E a7 v7, wBest E a8 (rf2 (a9 0) (a10 0)) v8, wHouse E a9 v9, wSight E a10 v10, wIntr E a11 v11, wToks E a12 v12, wHRead E a13 (rf1 (a12 0)), wQRead E a14 (rf3 (a12 0) q15 q16) v14, wArr E q15 12 v15, wArr E q16 12 v16, wModel E a17 (rf2 (a17 1) q18) p1993.2, wNm E q18, wLon E q19 p1975.2.2.2.2.2]) [1, 2, 3, 4, 5, 6, 7, 8, 9, 10, 11, 12, 13, 14, 15, 16, 17, 0, 18, 19] 20 rfl (by decide) rfl ?_
  refine ww_iload C dL_law_2002 1 rfl ?_
  refine ww_icmp_eq (tgt := 2009) C dL_law_2004 (by decide) (fun c_21 => ?_) (fun c_21 => ?_)
  · replace hf := ifT c_21 hf
    refine ww_iload C dL_law_2009 1 rfl ?_
    refine ww_if_ne (tgt := 2026) C dL_law_2011 (by decide) (fun c_22 => ?_) (fun c_22 => ?_)
    · replace hf := ifF c_22 hf
      refine ww_goto (tgt := 2229) C dL_law_2026 (by decide) ?_
      obtain ⟨x4_2229, e_x4_2229⟩ : ∃ y : Int32, y = x4 + 6 := ⟨_, rfl⟩
      replace hf := ltE e_x4_2229 hf
      refine ww_iinc (v := x4_2229) (lv' := [(4, .int x4_2229), (6, .int p1993.1), (5, .int p1975.1), (0, .ref bS), (1, .ref (a0 0)), (2, .ref (a17 0)), (3, .ref q19)]) C dL_law_2229 6 rfl (by rw [e_x4_2229]; rfl) (by decide) rfl ?_
      refine ww_goto (tgt := 23) C dL_law_2232 (by decide) ?_
      refine ww_sub C (lv' := [(0, .ref bS), (1, .ref (a0 0)), (2, .ref (a17 0)), (3, .ref q19), (4, .int x4_2229)]) [3, 4, 5, 6, 0] rfl ?_
      refine ww_widen (k := c + 3) (n := s + 18) (by show c + 2 + 0 + 0 ≤ c + 3; omega) (by show s + 12 + 0 + 0 ≤ s + 18; omega) ?_
      exact hk23 _ _ _ _ _ _ _ _ _ _ _ _ _ _ _ _ _ _ _ hf
    · replace hf := ifT c_22 hf
      refine ww_aload_n C dL_law_2014 rfl 5 rfl ?_
      refine ww_iconst (v := 0) C dL_law_2015 (by decide) ?_
      obtain ⟨g_23, hf⟩ := gdE hf
      refine ww_lald C (f := p1975.2.2.2.2.2) (w := wLon E q19 p1975.2.2.2.2.2) 19 0 rfl q_Lon (inB_vp g_23) dL_law_2016 ?_
      refine ww_iload C dL_law_2017 0 rfl ?_
      refine ww_i2l C dL_law_2019 ?_
      refine ww_lcmp C dL_law_2020 ?_
      refine ww_if_eq (tgt := 2026) C dL_law_2021 (by decide) (fun c_24 => ?_) (fun c_24 => ?_)
      · replace hf := ifT c_24 hf
        refine ww_goto (tgt := 2229) C dL_law_2026 (by decide) ?_
        obtain ⟨x4_2229, e_x4_2229⟩ : ∃ y : Int32, y = x4 + 6 := ⟨_, rfl⟩
        replace hf := ltE e_x4_2229 hf
        refine ww_iinc (v := x4_2229) (lv' := [(4, .int x4_2229), (6, .int p1993.1), (5, .int p1975.1), (0, .ref bS), (1, .ref (a0 0)), (2, .ref (a17 0)), (3, .ref q19)]) C dL_law_2229 6 rfl (by rw [e_x4_2229]; rfl) (by decide) rfl ?_
        refine ww_goto (tgt := 23) C dL_law_2232 (by decide) ?_
        refine ww_sub C (lv' := [(0, .ref bS), (1, .ref (a0 0)), (2, .ref (a17 0)), (3, .ref q19), (4, .int x4_2229)]) [3, 4, 5, 6, 0] rfl ?_
        refine ww_widen (k := c + 3) (n := s + 18) (by show c + 2 + 0 + 0 ≤ c + 3; omega) (by show s + 12 + 0 + 0 ≤ s + 18; omega) ?_
        exact hk23 _ _ _ _ _ _ _ _ _ _ _ _ _ _ _ _ _ _ _ hf
      · replace hf := ifF c_24 hf
        refine ww_iconst (v := 0) C dL_law_2024 (by decide) ?_
        cases hf
  · replace hf := ifF c_21 hf
    refine ww_iconst (v := 0) C dL_law_2007 (by decide) ?_
    cases hf

set_option maxHeartbeats 8000000 in
set_option maxRecDepth 100000 in
theorem w_L_law_2029 {E : Ex} {K : Kx} (C : Cx E K cL_law 9 (some .boolean) RL wsL_law rmL_law) {a0 : Nat → Nat} {a1 : Nat → Nat} {a2 : Nat → Nat} {a3 : Nat → Nat} {q4 : Nat} {ah4 : Nat → Nat → Nat} {a5 : Nat → Nat} {a6 : Nat → Nat} {a7 : Nat → Nat} {a8 : Nat → Nat} {a9 : Nat → Nat} {a10 : Nat → Nat} {a11 : Nat → Nat} {a12 : Nat → Nat} {a13 : Nat → Nat} {a14 : Nat → Nat} {q15 : Nat} {q16 : Nat} {a17 : Nat → Nat} {q18 : Nat} {q19 : Nat} {bS L : Nat} {xs : Nat → Int32} {Q : State → Prop} (T0 : TL E K) (S0 : SX bS L xs K) (HR : ∀ (c s : Nat) (lv : List (Nat × Value)) (gs : List va_W), c ≤ 601024 → s ≤ 7293034 → WW E K c s Q 2236 lv [.int 1] gs) {c s : Nat} (hc : c + 3 ≤ 601024) (hs : s + 18 ≤ 7293034) {k23 : Int32 → GWV → HouseV → HouseV → HistV → (Nat → HouseV) → HouseV → SightV → SightV → BestV → HouseV → SightV → IntrV → ToksV → QReadV → (Nat → Int32) → (Nat → Int32) → ModelV → (Nat → Int64) → Option Unit} (hk23 : ∀ (x4 : Int32) (v0 : GWV) (v1 : HouseV) (v2 : HouseV) (v3 : HistV) (v4 : Nat → HouseV) (v5 : HouseV) (v6 : SightV) (v7 : SightV) (v8 : BestV) (v9 : HouseV) (v10 : SightV) (v11 : IntrV) (v12 : ToksV) (v14 : QReadV) (v15 : Nat → Int32) (v16 : Nat → Int32) (v17 : ModelV) (v19 : Nat → Int64), k23 x4 v0 v1 v2 v3 v4 v5 v6 v7 v8 v9 v10 v11 v12 v14 v15 v16 v17 v19 = some () → WW E K (c + 3) (s + 18) Q 23 [(0, .ref bS), (1, .ref (a0 0)), (2, .ref (a17 0)), (3, .ref q19), (4, .int x4)] [] [wGW E a0 (rf10 (a1 0) (a2 0) (a3 0) (a6 0) (a7 0) (a8 0) (a11 0) (a12 0) (a13 0) (a14 0)) v0, wHouse E a1 v1, wHouse E a2 v2, wHist E a3 (rf2 q4 (a5 0)) v3, wHs E q4 ah4 v4, wHouse E a5 v5, wSight E a6 v6, wSight E a7 v7, wBest E a8 (rf2 (a9 0) (a10 0)) v8, wHouse E a9 v9, wSight E a10 v10, wIntr E a11 v11, wToks E a12 v12, wHRead E a13 (rf1 (a12 0)), wQRead E a14 (rf3 (a12 0) q15 q16) v14, wArr E q15 12 v15, wArr E q16 12 v16, wModel E a17 (rf2 (a17 1) q18) v17, wNm E q18, wLon E q19 v19]) {x4 : Int32} {v0 : GWV} {v1 : HouseV} {v2 : HouseV} {v3 : HistV} {v4 : Nat → HouseV} {v5 : HouseV} {v6 : SightV} {v7 : SightV} {v8 : BestV} {v9 : HouseV} {v10 : SightV} {v11 : IntrV} {v12 : ToksV} {v14 : QReadV} {v15 : Nat → Int32} {v16 : Nat → Int32} {v17 : ModelV} {v19 : Nat → Int64} (hf : Law_2029 L xs k23 x4 v0 v1 v2 v3 v4 v5 v6 v7 v8 v9 v10 v11 v12 v14 v15 v16 v17 v19 = some ()) : WW E K c s Q 2029 [(0, .ref bS), (1, .ref (a0 0)), (2, .ref (a17 0)), (3, .ref q19), (4, .int x4)] [] [wGW E a0 (rf10 (a1 0) (a2 0) (a3 0) (a6 0) (a7 0) (a8 0) (a11 0) (a12 0) (a13 0) (a14 0)) v0, wHouse E a1 v1, wHouse E a2 v2, wHist E a3 (rf2 q4 (a5 0)) v3, wHs E q4 ah4 v4, wHouse E a5 v5, wSight E a6 v6, wSight E a7 v7, wBest E a8 (rf2 (a9 0) (a10 0)) v8, wHouse E a9 v9, wSight E a10 v10, wIntr E a11 v11, wToks E a12 v12, wHRead E a13 (rf1 (a12 0)), wQRead E a14 (rf3 (a12 0) q15 q16) v14, wArr E q15 12 v15, wArr E q16 12 v16, wModel E a17 (rf2 (a17 1) q18) v17, wNm E q18, wLon E q19 v19] := by
  rw [Law_2029] at hf
  refine ww_aload_n C dL_law_2029 rfl 1 rfl ?_
  refine ww_aload_n C dL_law_2030 rfl 0 rfl ?_
  refine ww_iload C dL_law_2031 4 rfl ?_
  refine ww_iconst (v := 1) C dL_law_2033 (by decide) ?_
  refine ww_iadd C dL_law_2034 ?_
  obtain ⟨g_14, hf⟩ := gdE hf
  refine ww_sld C S0 (inB_vp g_14) dL_law_2035 ?_
  refine ww_aload_n C dL_law_2036 rfl 3 rfl ?_
  obtain ⟨p2037, hp2037, hf⟩ := bdE hf
  refine ww_callSL C T0 (As := [.ref (a0 0), .int (xs (Int32.toNatClampNeg (x4 + 1))), .ref q19]) (st := []) (gr := [wHouse E a5 v5, wSight E a6 v6, wSight E a7 v7, wBest E a8 (rf2 (a9 0) (a10 0)) v8, wHouse E a9 v9, wSight E a10 v10, wIntr E a11 v11, wQRead E a14 (rf3 (a12 0) q15 q16) v14, wArr E q15 12 v15, wArr E q16 12 v16, wModel E a17 (rf2 (a17 1) q18) v17, wNm E q18]) (c_L_change (E := E) (a0 := a0) (h0_3 := a6 0) (h0_4 := a7 0) (h0_5 := a8 0) (h0_6 := a11 0) (h0_9 := a14 0) (a1 := a1) (a2 := a2) (a3 := a3) (h3_1 := a5 0) (q4 := q4) (ah4 := ah4) (a5 := a12) (a6 := a13) (q7 := q19) hp2037) gL_law_L_change rfl ysk_L_change ⟨by decide, by decide⟩ ⟨by show c + 1 ≤ 601024; omega, by show s + 6 ≤ 7293034; omega⟩ [0, 1, 2, 3, 4, 12, 13, 19] [5, 6, 7, 8, 9, 10, 11, 14, 15, 16, 17, 18] 20 rfl (by decide) rfl rfl (Nat.le_of_ble_eq_true rfl) dL_law_2037 ?_
  rintro _ _ ⟨rfl, rfl⟩
  refine ww_perm (gs' := [wGW E a0 (rf10 (a1 0) (a2 0) (a3 0) (a6 0) (a7 0) (a8 0) (a11 0) (a12 0) (a13 0) (a14 0)) p2037.2.1, wHouse E a1 p2037.2.2.1, wHouse E a2 p2037.2.2.2.1, wHist E a3 (rf2 q4 (a5 0)) p2037.2.2.2.2.1, wHs E q4 ah4 p2037.2.2.2.2.2.1, wHouse E a5 v5, wSight E a6 v6, wSight E a7 v7, wBest E a8 (rf2 (a9 0) (a10 0)) v8, wHouse E a9 v9, wSight E a10 v10, wIntr E a11 v11, wToks E a12 p2037.2.2.2.2.2.2.1, wHRead E a13 (rf1 (a12 0)), wQRead E a14 (rf3 (a12 0) q15 q16) v14, wArr E q15 12 v15, wArr E q16 12 v16, wModel E a17 (rf2 (a17 1) q18) v17, wNm E q18, wLon E q19 p2037.2.2.2.2.2.2.2]) [0, 1, 2, 3, 4, 8, 9, 10, 11, 12, 13, 14, 5, 6, 15, 16, 17, 18, 19, 7] 20 rfl (by decide) rfl ?_
  refine ww_istore (lv' := [(5, .int p2037.1), (0, .ref bS), (1, .ref (a0 0)), (2, .ref (a17 0)), (3, .ref q19), (4, .int x4)]) C dL_law_2040 (by decide) rfl ?_
  refine ww_aload_n C dL_law_2042 rfl 3 rfl ?_
  refine ww_aload_n C dL_law_2043 rfl 1 rfl ?_
  refine ww_iload C dL_law_2044 5 rfl ?_
  refine ww_iconst (v := 1) C dL_law_2046 (by decide) ?_
  refine ww_iadd C dL_law_2047 ?_
  refine ww_sld C S0 (inB_vp g_14) dL_law_2048 ?_
  obtain ⟨p2049, hp2049, hf⟩ := bdE hf
  refine ww_callV C (As := [.int (xs (Int32.toNatClampNeg (x4 + 1)))]) (st := []) (gr := [wGW E a0 (rf10 (a1 0) (a2 0) (a3 0) (a6 0) (a7 0) (a8 0) (a11 0) (a12 0) (a13 0) (a14 0)) p2037.2.1, wHouse E a1 p2037.2.2.1, wHouse E a2 p2037.2.2.2.1, wHist E a3 (rf2 q4 (a5 0)) p2037.2.2.2.2.1, wHs E q4 ah4 p2037.2.2.2.2.2.1, wHouse E a5 v5, wSight E a6 v6, wSight E a7 v7, wBest E a8 (rf2 (a9 0) (a10 0)) v8, wHouse E a9 v9, wSight E a10 v10, wIntr E a11 v11, wToks E a12 p2037.2.2.2.2.2.2.1, wHRead E a13 (rf1 (a12 0)), wQRead E a14 (rf3 (a12 0) q15 q16) v14, wArr E q15 12 v15, wArr E q16 12 v16, wNm E q18, wLon E q19 p2037.2.2.2.2.2.2.2]) (c_X9_change (E := E) (a0 := a17) (h0_1 := q18) hp2049) gL_law_X9_change rfl yk_X9_change ⟨by decide, by decide⟩ ⟨by show c + 1 + 0 ≤ 601024; omega, by show s + 6 + 0 ≤ 7293034; omega⟩ clOK9 0 0 rfl rfl [17] [0, 1, 2, 3, 4, 5, 6, 7, 8, 9, 10, 11, 12, 13, 14, 15, 16, 18, 19] 20 rfl (by decide) rfl rfl (Nat.le_of_ble_eq_true rfl) dL_law_2049 ?_
  rintro _ _ ⟨rfl, rfl⟩
  refine ww_perm (gs' := [wGW E a0 (rf10 (a1 0) (a2 0) (a3 0) (a6 0) (a7 0) (a8 0) (a11 0) (a12 0) (a13 0) (a14 0)) p2037.2.1, wHouse E a1 p2037.2.2.1, wHouse E a2 p2037.2.2.2.1, wHist E a3 (rf2 q4 (a5 0)) p2037.2.2.2.2.1, wHs E q4 ah4 p2037.2.2.2.2.2.1, wHouse E a5 v5, wSight E a6 v6, wSight E a7 v7, wBest E a8 (rf2 (a9 0) (a10 0)) v8, wHouse E a9 v9, wSight E a10 v10, wIntr E a11 v11, wToks E a12 p2037.2.2.2.2.2.2.1, wHRead E a13 (rf1 (a12 0)), wQRead E a14 (rf3 (a12 0) q15 q16) v14, wArr E q15 12 v15, wArr E q16 12 v16, wModel E a17 (rf2 (a17 1) q18) p2049.2, wNm E q18, wLon E q19 p2037.2.2.2.2.2.2.2]) [1, 2, 3, 4, 5, 6, 7, 8, 9, 10, 11, 12, 13, 14, 15, 16, 17, 0, 18, 19] 20 rfl (by decide) rfl ?_
  refine ww_istore (lv' := [(6, .int p2049.1), (5, .int p2037.1), (0, .ref bS), (1, .ref (a0 0)), (2, .ref (a17 0)), (3, .ref q19), (4, .int x4)]) C dL_law_2052 (by decide) rfl ?_
  refine ww_aload_n C dL_law_2054 rfl 4 rfl ?_
  obtain ⟨p2055, hp2055, hf⟩ := bdE hf
  refine ww_callV C (As := []) (st := []) (gr := [wGW E a0 (rf10 (a1 0) (a2 0) (a3 0) (a6 0) (a7 0) (a8 0) (a11 0) (a12 0) (a13 0) (a14 0)) p2037.2.1, wHouse E a1 p2037.2.2.1, wHouse E a2 p2037.2.2.2.1, wHist E a3 (rf2 q4 (a5 0)) p2037.2.2.2.2.1, wHs E q4 ah4 p2037.2.2.2.2.2.1, wHouse E a5 v5, wSight E a6 v6, wSight E a7 v7, wBest E a8 (rf2 (a9 0) (a10 0)) v8, wHouse E a9 v9, wSight E a10 v10, wIntr E a11 v11, wToks E a12 p2037.2.2.2.2.2.2.1, wHRead E a13 (rf1 (a12 0)), wQRead E a14 (rf3 (a12 0) q15 q16) v14, wArr E q15 12 v15, wArr E q16 12 v16, wNm E q18, wLon E q19 p2037.2.2.2.2.2.2.2]) (c_X9_thrown (E := E) (a0 := a17) (h0_0 := a17 1) (h0_1 := q18) hp2055) gL_law_X9_thrown rfl yk_X9_thrown ⟨by decide, by decide⟩ ⟨by show c + 1 + 0 + 0 ≤ 601024; omega, by show s + 6 + 0 + 0 ≤ 7293034; omega⟩ clOK9 0 0 rfl rfl [17] [0, 1, 2, 3, 4, 5, 6, 7, 8, 9, 10, 11, 12, 13, 14, 15, 16, 18, 19] 20 rfl (by decide) rfl rfl (Nat.le_of_ble_eq_true rfl) dL_law_2055 ?_
  rintro _ _ ⟨rfl, rfl⟩
  refine ww_perm (gs' := [wGW E a0 (rf10 (a1 0) (a2 0) (a3 0) (a6 0) (a7 0) (a8 0) (a11 0) (a12 0) (a13 0) (a14 0)) p2037.2.1, wHouse E a1 p2037.2.2.1, wHouse E a2 p2037.2.2.2.1, wHist E a3 (rf2 q4 (a5 0)) p2037.2.2.2.2.1, wHs E q4 ah4 p2037.2.2.2.2.2.1, wHouse E a5 v5, wSight E a6 v6, wSight E a7 v7, wBest E a8 (rf2 (a9 0) (a10 0)) v8, wHouse E a9 v9, wSight E a10 v10, wIntr E a11 v11, wToks E a12 p2037.2.2.2.2.2.2.1, wHRead E a13 (rf1 (a12 0)), wQRead E a14 (rf3 (a12 0) q15 q16) v14, wArr E q15 12 v15, wArr E q16 12 v16, wModel E a17 (rf2 (a17 1) q18) p2049.2, wNm E q18, wLon E q19 p2037.2.2.2.2.2.2.2]) [1, 2, 3, 4, 5, 6, 7, 8, 9, 10, 11, 12, 13, 14, 15, 16, 17, 0, 18, 19] 20 rfl (by decide) rfl ?_
  refine ww_iload C dL_law_2058 1 rfl ?_
  refine ww_icmp_eq (tgt := 2065) C dL_law_2060 (by decide) (fun c_15 => ?_) (fun c_15 => ?_)
  · replace hf := ifT c_15 hf
    refine ww_iload C dL_law_2065 1 rfl ?_
    refine ww_if_ne (tgt := 2082) C dL_law_2067 (by decide) (fun c_16 => ?_) (fun c_16 => ?_)
    · replace hf := ifF c_16 hf
      refine ww_goto (tgt := 2229) C dL_law_2082 (by decide) ?_
      obtain ⟨x4_2229, e_x4_2229⟩ : ∃ y : Int32, y = x4 + 6 := ⟨_, rfl⟩
      replace hf := ltE e_x4_2229 hf
      refine ww_iinc (v := x4_2229) (lv' := [(4, .int x4_2229), (6, .int p2049.1), (5, .int p2037.1), (0, .ref bS), (1, .ref (a0 0)), (2, .ref (a17 0)), (3, .ref q19)]) C dL_law_2229 6 rfl (by rw [e_x4_2229]; rfl) (by decide) rfl ?_
      refine ww_goto (tgt := 23) C dL_law_2232 (by decide) ?_
      refine ww_sub C (lv' := [(0, .ref bS), (1, .ref (a0 0)), (2, .ref (a17 0)), (3, .ref q19), (4, .int x4_2229)]) [3, 4, 5, 6, 0] rfl ?_
      refine ww_widen (k := c + 3) (n := s + 18) (by show c + 1 + 0 + 0 ≤ c + 3; omega) (by show s + 6 + 0 + 0 ≤ s + 18; omega) ?_
      exact hk23 _ _ _ _ _ _ _ _ _ _ _ _ _ _ _ _ _ _ _ hf
    · replace hf := ifT c_16 hf
      refine ww_aload_n C dL_law_2070 rfl 5 rfl ?_
      refine ww_iconst (v := 0) C dL_law_2071 (by decide) ?_
      obtain ⟨g_17, hf⟩ := gdE hf
      refine ww_lald C (f := p2037.2.2.2.2.2.2.2) (w := wLon E q19 p2037.2.2.2.2.2.2.2) 19 0 rfl q_Lon (inB_vp g_17) dL_law_2072 ?_
      refine ww_iload C dL_law_2073 0 rfl ?_
      refine ww_i2l C dL_law_2075 ?_
      refine ww_lcmp C dL_law_2076 ?_
      refine ww_if_eq (tgt := 2082) C dL_law_2077 (by decide) (fun c_18 => ?_) (fun c_18 => ?_)
      · replace hf := ifT c_18 hf
        refine ww_goto (tgt := 2229) C dL_law_2082 (by decide) ?_
        obtain ⟨x4_2229, e_x4_2229⟩ : ∃ y : Int32, y = x4 + 6 := ⟨_, rfl⟩
        replace hf := ltE e_x4_2229 hf
        refine ww_iinc (v := x4_2229) (lv' := [(4, .int x4_2229), (6, .int p2049.1), (5, .int p2037.1), (0, .ref bS), (1, .ref (a0 0)), (2, .ref (a17 0)), (3, .ref q19)]) C dL_law_2229 6 rfl (by rw [e_x4_2229]; rfl) (by decide) rfl ?_
        refine ww_goto (tgt := 23) C dL_law_2232 (by decide) ?_
        refine ww_sub C (lv' := [(0, .ref bS), (1, .ref (a0 0)), (2, .ref (a17 0)), (3, .ref q19), (4, .int x4_2229)]) [3, 4, 5, 6, 0] rfl ?_
        refine ww_widen (k := c + 3) (n := s + 18) (by show c + 1 + 0 + 0 ≤ c + 3; omega) (by show s + 6 + 0 + 0 ≤ s + 18; omega) ?_
        exact hk23 _ _ _ _ _ _ _ _ _ _ _ _ _ _ _ _ _ _ _ hf
      · replace hf := ifF c_18 hf
        refine ww_iconst (v := 0) C dL_law_2080 (by decide) ?_
        cases hf
  · replace hf := ifF c_15 hf
    refine ww_iconst (v := 0) C dL_law_2063 (by decide) ?_
    cases hf

set_option maxHeartbeats 8000000 in
set_option maxRecDepth 100000 in
theorem w_L_law_2085 {E : Ex} {K : Kx} (C : Cx E K cL_law 9 (some .boolean) RL wsL_law rmL_law) {a0 : Nat → Nat} {a1 : Nat → Nat} {a2 : Nat → Nat} {a3 : Nat → Nat} {q4 : Nat} {ah4 : Nat → Nat → Nat} {a5 : Nat → Nat} {a6 : Nat → Nat} {a7 : Nat → Nat} {a8 : Nat → Nat} {a9 : Nat → Nat} {a10 : Nat → Nat} {a11 : Nat → Nat} {a12 : Nat → Nat} {a13 : Nat → Nat} {a14 : Nat → Nat} {q15 : Nat} {q16 : Nat} {a17 : Nat → Nat} {q18 : Nat} {q19 : Nat} {bS L : Nat} {xs : Nat → Int32} {Q : State → Prop} (T0 : TL E K) (S0 : SX bS L xs K) (HR : ∀ (c s : Nat) (lv : List (Nat × Value)) (gs : List va_W), c ≤ 601024 → s ≤ 7293034 → WW E K c s Q 2236 lv [.int 1] gs) {c s : Nat} (hc : c + 3 ≤ 601024) (hs : s + 18 ≤ 7293034) {k23 : Int32 → GWV → HouseV → HouseV → HistV → (Nat → HouseV) → HouseV → SightV → SightV → BestV → HouseV → SightV → IntrV → ToksV → QReadV → (Nat → Int32) → (Nat → Int32) → ModelV → (Nat → Int64) → Option Unit} (hk23 : ∀ (x4 : Int32) (v0 : GWV) (v1 : HouseV) (v2 : HouseV) (v3 : HistV) (v4 : Nat → HouseV) (v5 : HouseV) (v6 : SightV) (v7 : SightV) (v8 : BestV) (v9 : HouseV) (v10 : SightV) (v11 : IntrV) (v12 : ToksV) (v14 : QReadV) (v15 : Nat → Int32) (v16 : Nat → Int32) (v17 : ModelV) (v19 : Nat → Int64), k23 x4 v0 v1 v2 v3 v4 v5 v6 v7 v8 v9 v10 v11 v12 v14 v15 v16 v17 v19 = some () → WW E K (c + 3) (s + 18) Q 23 [(0, .ref bS), (1, .ref (a0 0)), (2, .ref (a17 0)), (3, .ref q19), (4, .int x4)] [] [wGW E a0 (rf10 (a1 0) (a2 0) (a3 0) (a6 0) (a7 0) (a8 0) (a11 0) (a12 0) (a13 0) (a14 0)) v0, wHouse E a1 v1, wHouse E a2 v2, wHist E a3 (rf2 q4 (a5 0)) v3, wHs E q4 ah4 v4, wHouse E a5 v5, wSight E a6 v6, wSight E a7 v7, wBest E a8 (rf2 (a9 0) (a10 0)) v8, wHouse E a9 v9, wSight E a10 v10, wIntr E a11 v11, wToks E a12 v12, wHRead E a13 (rf1 (a12 0)), wQRead E a14 (rf3 (a12 0) q15 q16) v14, wArr E q15 12 v15, wArr E q16 12 v16, wModel E a17 (rf2 (a17 1) q18) v17, wNm E q18, wLon E q19 v19]) {x4 : Int32} {v0 : GWV} {v1 : HouseV} {v2 : HouseV} {v3 : HistV} {v4 : Nat → HouseV} {v5 : HouseV} {v6 : SightV} {v7 : SightV} {v8 : BestV} {v9 : HouseV} {v10 : SightV} {v11 : IntrV} {v12 : ToksV} {v14 : QReadV} {v15 : Nat → Int32} {v16 : Nat → Int32} {v17 : ModelV} {v19 : Nat → Int64} (hf : Law_2085 L xs k23 x4 v0 v1 v2 v3 v4 v5 v6 v7 v8 v9 v10 v11 v12 v14 v15 v16 v17 v19 = some ()) : WW E K c s Q 2085 [(0, .ref bS), (1, .ref (a0 0)), (2, .ref (a17 0)), (3, .ref q19), (4, .int x4)] [] [wGW E a0 (rf10 (a1 0) (a2 0) (a3 0) (a6 0) (a7 0) (a8 0) (a11 0) (a12 0) (a13 0) (a14 0)) v0, wHouse E a1 v1, wHouse E a2 v2, wHist E a3 (rf2 q4 (a5 0)) v3, wHs E q4 ah4 v4, wHouse E a5 v5, wSight E a6 v6, wSight E a7 v7, wBest E a8 (rf2 (a9 0) (a10 0)) v8, wHouse E a9 v9, wSight E a10 v10, wIntr E a11 v11, wToks E a12 v12, wHRead E a13 (rf1 (a12 0)), wQRead E a14 (rf3 (a12 0) q15 q16) v14, wArr E q15 12 v15, wArr E q16 12 v16, wModel E a17 (rf2 (a17 1) q18) v17, wNm E q18, wLon E q19 v19] := by
  rw [Law_2085] at hf
  refine ww_aload_n C dL_law_2085 rfl 1 rfl ?_
  obtain ⟨p2086, hp2086, hf⟩ := bdE hf
  refine ww_callV C (As := []) (st := []) (gr := [wHouse E a2 v2, wHist E a3 (rf2 q4 (a5 0)) v3, wHs E q4 ah4 v4, wHouse E a5 v5, wSight E a7 v7, wBest E a8 (rf2 (a9 0) (a10 0)) v8, wHouse E a9 v9, wSight E a10 v10, wIntr E a11 v11, wToks E a12 v12, wHRead E a13 (rf1 (a12 0)), wQRead E a14 (rf3 (a12 0) q15 q16) v14, wArr E q15 12 v15, wArr E q16 12 v16, wModel E a17 (rf2 (a17 1) q18) v17, wNm E q18, wLon E q19 v19]) (c_X8_format (E := E) (a0 := a0) (h0_1 := a2 0) (h0_2 := a3 0) (h0_4 := a7 0) (h0_5 := a8 0) (h0_6 := a11 0) (h0_7 := a12 0) (h0_8 := a13 0) (h0_9 := a14 0) (a1 := a1) (a2 := a6) hp2086) gL_law_X8_format rfl yk_X8_format ⟨by decide, by decide⟩ ⟨by show c + 0 ≤ 601024; omega, by show s + 0 ≤ 7293034; omega⟩ clOK8 0 0 rfl rfl [0, 1, 6] [2, 3, 4, 5, 7, 8, 9, 10, 11, 12, 13, 14, 15, 16, 17, 18, 19] 20 rfl (by decide) rfl rfl (Nat.le_of_ble_eq_true rfl) dL_law_2086 ?_
  rintro _ _ ⟨rfl, rfl⟩
  refine ww_perm (gs' := [wGW E a0 (rf10 (a1 0) (a2 0) (a3 0) (a6 0) (a7 0) (a8 0) (a11 0) (a12 0) (a13 0) (a14 0)) p2086.2.1, wHouse E a1 v1, wHouse E a2 v2, wHist E a3 (rf2 q4 (a5 0)) v3, wHs E q4 ah4 v4, wHouse E a5 v5, wSight E a6 p2086.2.2, wSight E a7 v7, wBest E a8 (rf2 (a9 0) (a10 0)) v8, wHouse E a9 v9, wSight E a10 v10, wIntr E a11 v11, wToks E a12 v12, wHRead E a13 (rf1 (a12 0)), wQRead E a14 (rf3 (a12 0) q15 q16) v14, wArr E q15 12 v15, wArr E q16 12 v16, wModel E a17 (rf2 (a17 1) q18) v17, wNm E q18, wLon E q19 v19]) [0, 1, 3, 4, 5, 6, 2, 7, 8, 9, 10, 11, 12, 13, 14, 15, 16, 17, 18, 19] 20 rfl (by decide) rfl ?_
  refine ww_aload_n C dL_law_2089 rfl 2 rfl ?_
  obtain ⟨p2090, hp2090, hf⟩ := bdE hf
  refine ww_callV C (As := []) (st := [.int p2086.1]) (gr := [wGW E a0 (rf10 (a1 0) (a2 0) (a3 0) (a6 0) (a7 0) (a8 0) (a11 0) (a12 0) (a13 0) (a14 0)) p2086.2.1, wHouse E a1 v1, wHouse E a2 v2, wHist E a3 (rf2 q4 (a5 0)) v3, wHs E q4 ah4 v4, wHouse E a5 v5, wSight E a6 p2086.2.2, wSight E a7 v7, wBest E a8 (rf2 (a9 0) (a10 0)) v8, wHouse E a9 v9, wSight E a10 v10, wIntr E a11 v11, wToks E a12 v12, wHRead E a13 (rf1 (a12 0)), wQRead E a14 (rf3 (a12 0) q15 q16) v14, wArr E q15 12 v15, wArr E q16 12 v16, wNm E q18, wLon E q19 v19]) (c_X9_format (E := E) (a0 := a17) (h0_1 := q18) hp2090) gL_law_X9_format rfl yk_X9_format ⟨by decide, by decide⟩ ⟨by show c + 0 + 0 ≤ 601024; omega, by show s + 0 + 0 ≤ 7293034; omega⟩ clOK9 0 0 rfl rfl [17] [0, 1, 2, 3, 4, 5, 6, 7, 8, 9, 10, 11, 12, 13, 14, 15, 16, 18, 19] 20 rfl (by decide) rfl rfl (Nat.le_of_ble_eq_true rfl) dL_law_2090 ?_
  rintro _ _ ⟨rfl, rfl⟩
  refine ww_perm (gs' := [wGW E a0 (rf10 (a1 0) (a2 0) (a3 0) (a6 0) (a7 0) (a8 0) (a11 0) (a12 0) (a13 0) (a14 0)) p2086.2.1, wHouse E a1 v1, wHouse E a2 v2, wHist E a3 (rf2 q4 (a5 0)) v3, wHs E q4 ah4 v4, wHouse E a5 v5, wSight E a6 p2086.2.2, wSight E a7 v7, wBest E a8 (rf2 (a9 0) (a10 0)) v8, wHouse E a9 v9, wSight E a10 v10, wIntr E a11 v11, wToks E a12 v12, wHRead E a13 (rf1 (a12 0)), wQRead E a14 (rf3 (a12 0) q15 q16) v14, wArr E q15 12 v15, wArr E q16 12 v16, wModel E a17 (rf2 (a17 1) q18) p2090.2, wNm E q18, wLon E q19 v19]) [1, 2, 3, 4, 5, 6, 7, 8, 9, 10, 11, 12, 13, 14, 15, 16, 17, 0, 18, 19] 20 rfl (by decide) rfl ?_
  refine ww_icmp_eq (tgt := 2229) C dL_law_2093 (by decide) (fun c_13 => ?_) (fun c_13 => ?_)
  · replace hf := ifT c_13 hf
    obtain ⟨x4_2229, e_x4_2229⟩ : ∃ y : Int32, y = x4 + 6 := ⟨_, rfl⟩
    replace hf := ltE e_x4_2229 hf
    refine ww_iinc (v := x4_2229) (lv' := [(4, .int x4_2229), (0, .ref bS), (1, .ref (a0 0)), (2, .ref (a17 0)), (3, .ref q19)]) C dL_law_2229 4 rfl (by rw [e_x4_2229]; rfl) (by decide) rfl ?_
    refine ww_goto (tgt := 23) C dL_law_2232 (by decide) ?_
    refine ww_sub C (lv' := [(0, .ref bS), (1, .ref (a0 0)), (2, .ref (a17 0)), (3, .ref q19), (4, .int x4_2229)]) [1, 2, 3, 4, 0] rfl ?_
    refine ww_widen (k := c + 3) (n := s + 18) (by show c + 0 + 0 ≤ c + 3; omega) (by show s + 0 + 0 ≤ s + 18; omega) ?_
    exact hk23 _ _ _ _ _ _ _ _ _ _ _ _ _ _ _ _ _ _ _ hf
  · replace hf := ifF c_13 hf
    refine ww_iconst (v := 0) C dL_law_2096 (by decide) ?_
    cases hf

set_option maxHeartbeats 8000000 in
set_option maxRecDepth 100000 in
theorem w_L_law_2098 {E : Ex} {K : Kx} (C : Cx E K cL_law 9 (some .boolean) RL wsL_law rmL_law) {a0 : Nat → Nat} {a1 : Nat → Nat} {a2 : Nat → Nat} {a3 : Nat → Nat} {q4 : Nat} {ah4 : Nat → Nat → Nat} {a5 : Nat → Nat} {a6 : Nat → Nat} {a7 : Nat → Nat} {a8 : Nat → Nat} {a9 : Nat → Nat} {a10 : Nat → Nat} {a11 : Nat → Nat} {a12 : Nat → Nat} {a13 : Nat → Nat} {a14 : Nat → Nat} {q15 : Nat} {q16 : Nat} {a17 : Nat → Nat} {q18 : Nat} {q19 : Nat} {bS L : Nat} {xs : Nat → Int32} {Q : State → Prop} (T0 : TL E K) (S0 : SX bS L xs K) (HR : ∀ (c s : Nat) (lv : List (Nat × Value)) (gs : List va_W), c ≤ 601024 → s ≤ 7293034 → WW E K c s Q 2236 lv [.int 1] gs) {c s : Nat} (hc : c + 3 ≤ 601024) (hs : s + 18 ≤ 7293034) {k23 : Int32 → GWV → HouseV → HouseV → HistV → (Nat → HouseV) → HouseV → SightV → SightV → BestV → HouseV → SightV → IntrV → ToksV → QReadV → (Nat → Int32) → (Nat → Int32) → ModelV → (Nat → Int64) → Option Unit} (hk23 : ∀ (x4 : Int32) (v0 : GWV) (v1 : HouseV) (v2 : HouseV) (v3 : HistV) (v4 : Nat → HouseV) (v5 : HouseV) (v6 : SightV) (v7 : SightV) (v8 : BestV) (v9 : HouseV) (v10 : SightV) (v11 : IntrV) (v12 : ToksV) (v14 : QReadV) (v15 : Nat → Int32) (v16 : Nat → Int32) (v17 : ModelV) (v19 : Nat → Int64), k23 x4 v0 v1 v2 v3 v4 v5 v6 v7 v8 v9 v10 v11 v12 v14 v15 v16 v17 v19 = some () → WW E K (c + 3) (s + 18) Q 23 [(0, .ref bS), (1, .ref (a0 0)), (2, .ref (a17 0)), (3, .ref q19), (4, .int x4)] [] [wGW E a0 (rf10 (a1 0) (a2 0) (a3 0) (a6 0) (a7 0) (a8 0) (a11 0) (a12 0) (a13 0) (a14 0)) v0, wHouse E a1 v1, wHouse E a2 v2, wHist E a3 (rf2 q4 (a5 0)) v3, wHs E q4 ah4 v4, wHouse E a5 v5, wSight E a6 v6, wSight E a7 v7, wBest E a8 (rf2 (a9 0) (a10 0)) v8, wHouse E a9 v9, wSight E a10 v10, wIntr E a11 v11, wToks E a12 v12, wHRead E a13 (rf1 (a12 0)), wQRead E a14 (rf3 (a12 0) q15 q16) v14, wArr E q15 12 v15, wArr E q16 12 v16, wModel E a17 (rf2 (a17 1) q18) v17, wNm E q18, wLon E q19 v19]) {x4 : Int32} {v0 : GWV} {v1 : HouseV} {v2 : HouseV} {v3 : HistV} {v4 : Nat → HouseV} {v5 : HouseV} {v6 : SightV} {v7 : SightV} {v8 : BestV} {v9 : HouseV} {v10 : SightV} {v11 : IntrV} {v12 : ToksV} {v14 : QReadV} {v15 : Nat → Int32} {v16 : Nat → Int32} {v17 : ModelV} {v19 : Nat → Int64} (hf : Law_2098 L xs k23 x4 v0 v1 v2 v3 v4 v5 v6 v7 v8 v9 v10 v11 v12 v14 v15 v16 v17 v19 = some ()) : WW E K c s Q 2098 [(0, .ref bS), (1, .ref (a0 0)), (2, .ref (a17 0)), (3, .ref q19), (4, .int x4)] [] [wGW E a0 (rf10 (a1 0) (a2 0) (a3 0) (a6 0) (a7 0) (a8 0) (a11 0) (a12 0) (a13 0) (a14 0)) v0, wHouse E a1 v1, wHouse E a2 v2, wHist E a3 (rf2 q4 (a5 0)) v3, wHs E q4 ah4 v4, wHouse E a5 v5, wSight E a6 v6, wSight E a7 v7, wBest E a8 (rf2 (a9 0) (a10 0)) v8, wHouse E a9 v9, wSight E a10 v10, wIntr E a11 v11, wToks E a12 v12, wHRead E a13 (rf1 (a12 0)), wQRead E a14 (rf3 (a12 0) q15 q16) v14, wArr E q15 12 v15, wArr E q16 12 v16, wModel E a17 (rf2 (a17 1) q18) v17, wNm E q18, wLon E q19 v19] := by
  rw [Law_2098] at hf
  refine ww_aload_n C dL_law_2098 rfl 1 rfl ?_
  refine ww_aload_n C dL_law_2099 rfl 0 rfl ?_
  refine ww_iload C dL_law_2100 4 rfl ?_
  refine ww_iconst (v := 1) C dL_law_2102 (by decide) ?_
  refine ww_iadd C dL_law_2103 ?_
  obtain ⟨g_11, hf⟩ := gdE hf
  refine ww_sld C S0 (inB_vp g_11) dL_law_2104 ?_
  obtain ⟨p2105, hp2105, hf⟩ := bdE hf
  refine ww_callV C (As := [.int (xs (Int32.toNatClampNeg (x4 + 1)))]) (st := []) (gr := [wHouse E a1 v1, wHouse E a2 v2, wHist E a3 (rf2 q4 (a5 0)) v3, wHs E q4 ah4 v4, wHouse E a5 v5, wSight E a6 v6, wSight E a7 v7, wBest E a8 (rf2 (a9 0) (a10 0)) v8, wHouse E a9 v9, wSight E a10 v10, wIntr E a11 v11, wToks E a12 v12, wHRead E a13 (rf1 (a12 0)), wQRead E a14 (rf3 (a12 0) q15 q16) v14, wArr E q15 12 v15, wArr E q16 12 v16, wModel E a17 (rf2 (a17 1) q18) v17, wNm E q18, wLon E q19 v19]) (c_X8_formattedByte (E := E) (a0 := a0) (h0_0 := a1 0) (h0_1 := a2 0) (h0_2 := a3 0) (h0_3 := a6 0) (h0_4 := a7 0) (h0_5 := a8 0) (h0_6 := a11 0) (h0_7 := a12 0) (h0_8 := a13 0) (h0_9 := a14 0) hp2105) gL_law_X8_formattedByte rfl yk_X8_formattedByte ⟨by decide, by decide⟩ ⟨by show c + 0 ≤ 601024; omega, by show s + 0 ≤ 7293034; omega⟩ clOK8 0 0 rfl rfl [0] [1, 2, 3, 4, 5, 6, 7, 8, 9, 10, 11, 12, 13, 14, 15, 16, 17, 18, 19] 20 rfl (by decide) rfl rfl (Nat.le_of_ble_eq_true rfl) dL_law_2105 ?_
  rintro _ _ ⟨rfl, rfl⟩
  refine ww_perm (gs' := [wGW E a0 (rf10 (a1 0) (a2 0) (a3 0) (a6 0) (a7 0) (a8 0) (a11 0) (a12 0) (a13 0) (a14 0)) v0, wHouse E a1 v1, wHouse E a2 v2, wHist E a3 (rf2 q4 (a5 0)) v3, wHs E q4 ah4 v4, wHouse E a5 v5, wSight E a6 v6, wSight E a7 v7, wBest E a8 (rf2 (a9 0) (a10 0)) v8, wHouse E a9 v9, wSight E a10 v10, wIntr E a11 v11, wToks E a12 v12, wHRead E a13 (rf1 (a12 0)), wQRead E a14 (rf3 (a12 0) q15 q16) v14, wArr E q15 12 v15, wArr E q16 12 v16, wModel E a17 (rf2 (a17 1) q18) v17, wNm E q18, wLon E q19 v19]) [0, 1, 2, 3, 4, 5, 6, 7, 8, 9, 10, 11, 12, 13, 14, 15, 16, 17, 18, 19] 20 rfl (by decide) rfl ?_
  refine ww_aload_n C dL_law_2108 rfl 2 rfl ?_
  refine ww_aload_n C dL_law_2109 rfl 0 rfl ?_
  refine ww_iload C dL_law_2110 4 rfl ?_
  refine ww_iconst (v := 1) C dL_law_2112 (by decide) ?_
  refine ww_iadd C dL_law_2113 ?_
  refine ww_sld C S0 (inB_vp g_11) dL_law_2114 ?_
  obtain ⟨p2115, hp2115, hf⟩ := bdE hf
  refine ww_callV C (As := [.int (xs (Int32.toNatClampNeg (x4 + 1)))]) (st := [.int p2105]) (gr := [wGW E a0 (rf10 (a1 0) (a2 0) (a3 0) (a6 0) (a7 0) (a8 0) (a11 0) (a12 0) (a13 0) (a14 0)) v0, wHouse E a1 v1, wHouse E a2 v2, wHist E a3 (rf2 q4 (a5 0)) v3, wHs E q4 ah4 v4, wHouse E a5 v5, wSight E a6 v6, wSight E a7 v7, wBest E a8 (rf2 (a9 0) (a10 0)) v8, wHouse E a9 v9, wSight E a10 v10, wIntr E a11 v11, wToks E a12 v12, wHRead E a13 (rf1 (a12 0)), wQRead E a14 (rf3 (a12 0) q15 q16) v14, wArr E q15 12 v15, wArr E q16 12 v16, wNm E q18, wLon E q19 v19]) (c_X9_formattedByte (E := E) (a0 := a17) (h0_0 := a17 1) (h0_1 := q18) hp2115) gL_law_X9_formattedByte rfl yk_X9_formattedByte ⟨by decide, by decide⟩ ⟨by show c + 0 + 0 ≤ 601024; omega, by show s + 0 + 0 ≤ 7293034; omega⟩ clOK9 0 0 rfl rfl [17] [0, 1, 2, 3, 4, 5, 6, 7, 8, 9, 10, 11, 12, 13, 14, 15, 16, 18, 19] 20 rfl (by decide) rfl rfl (Nat.le_of_ble_eq_true rfl) dL_law_2115 ?_
  rintro _ _ ⟨rfl, rfl⟩
  refine ww_perm (gs' := [wGW E a0 (rf10 (a1 0) (a2 0) (a3 0) (a6 0) (a7 0) (a8 0) (a11 0) (a12 0) (a13 0) (a14 0)) v0, wHouse E a1 v1, wHouse E a2 v2, wHist E a3 (rf2 q4 (a5 0)) v3, wHs E q4 ah4 v4, wHouse E a5 v5, wSight E a6 v6, wSight E a7 v7, wBest E a8 (rf2 (a9 0) (a10 0)) v8, wHouse E a9 v9, wSight E a10 v10, wIntr E a11 v11, wToks E a12 v12, wHRead E a13 (rf1 (a12 0)), wQRead E a14 (rf3 (a12 0) q15 q16) v14, wArr E q15 12 v15, wArr E q16 12 v16, wModel E a17 (rf2 (a17 1) q18) p2115.2, wNm E q18, wLon E q19 v19]) [1, 2, 3, 4, 5, 6, 7, 8, 9, 10, 11, 12, 13, 14, 15, 16, 17, 0, 18, 19] 20 rfl (by decide) rfl ?_
  refine ww_icmp_eq (tgt := 2229) C dL_law_2118 (by decide) (fun c_12 => ?_) (fun c_12 => ?_)
  · replace hf := ifT c_12 hf
    obtain ⟨x4_2229, e_x4_2229⟩ : ∃ y : Int32, y = x4 + 6 := ⟨_, rfl⟩
    replace hf := ltE e_x4_2229 hf
    refine ww_iinc (v := x4_2229) (lv' := [(4, .int x4_2229), (0, .ref bS), (1, .ref (a0 0)), (2, .ref (a17 0)), (3, .ref q19)]) C dL_law_2229 4 rfl (by rw [e_x4_2229]; rfl) (by decide) rfl ?_
    refine ww_goto (tgt := 23) C dL_law_2232 (by decide) ?_
    refine ww_sub C (lv' := [(0, .ref bS), (1, .ref (a0 0)), (2, .ref (a17 0)), (3, .ref q19), (4, .int x4_2229)]) [1, 2, 3, 4, 0] rfl ?_
    refine ww_widen (k := c + 3) (n := s + 18) (by show c + 0 + 0 ≤ c + 3; omega) (by show s + 0 + 0 ≤ s + 18; omega) ?_
    exact hk23 _ _ _ _ _ _ _ _ _ _ _ _ _ _ _ _ _ _ _ hf
  · replace hf := ifF c_12 hf
    refine ww_iconst (v := 0) C dL_law_2121 (by decide) ?_
    cases hf

set_option maxHeartbeats 8000000 in
set_option maxRecDepth 100000 in
theorem w_L_law_2123 {E : Ex} {K : Kx} (C : Cx E K cL_law 9 (some .boolean) RL wsL_law rmL_law) {a0 : Nat → Nat} {a1 : Nat → Nat} {a2 : Nat → Nat} {a3 : Nat → Nat} {q4 : Nat} {ah4 : Nat → Nat → Nat} {a5 : Nat → Nat} {a6 : Nat → Nat} {a7 : Nat → Nat} {a8 : Nat → Nat} {a9 : Nat → Nat} {a10 : Nat → Nat} {a11 : Nat → Nat} {a12 : Nat → Nat} {a13 : Nat → Nat} {a14 : Nat → Nat} {q15 : Nat} {q16 : Nat} {a17 : Nat → Nat} {q18 : Nat} {q19 : Nat} {bS L : Nat} {xs : Nat → Int32} {Q : State → Prop} (T0 : TL E K) (S0 : SX bS L xs K) (HR : ∀ (c s : Nat) (lv : List (Nat × Value)) (gs : List va_W), c ≤ 601024 → s ≤ 7293034 → WW E K c s Q 2236 lv [.int 1] gs) {c s : Nat} (hc : c + 3 ≤ 601024) (hs : s + 18 ≤ 7293034) {k23 : Int32 → GWV → HouseV → HouseV → HistV → (Nat → HouseV) → HouseV → SightV → SightV → BestV → HouseV → SightV → IntrV → ToksV → QReadV → (Nat → Int32) → (Nat → Int32) → ModelV → (Nat → Int64) → Option Unit} (hk23 : ∀ (x4 : Int32) (v0 : GWV) (v1 : HouseV) (v2 : HouseV) (v3 : HistV) (v4 : Nat → HouseV) (v5 : HouseV) (v6 : SightV) (v7 : SightV) (v8 : BestV) (v9 : HouseV) (v10 : SightV) (v11 : IntrV) (v12 : ToksV) (v14 : QReadV) (v15 : Nat → Int32) (v16 : Nat → Int32) (v17 : ModelV) (v19 : Nat → Int64), k23 x4 v0 v1 v2 v3 v4 v5 v6 v7 v8 v9 v10 v11 v12 v14 v15 v16 v17 v19 = some () → WW E K (c + 3) (s + 18) Q 23 [(0, .ref bS), (1, .ref (a0 0)), (2, .ref (a17 0)), (3, .ref q19), (4, .int x4)] [] [wGW E a0 (rf10 (a1 0) (a2 0) (a3 0) (a6 0) (a7 0) (a8 0) (a11 0) (a12 0) (a13 0) (a14 0)) v0, wHouse E a1 v1, wHouse E a2 v2, wHist E a3 (rf2 q4 (a5 0)) v3, wHs E q4 ah4 v4, wHouse E a5 v5, wSight E a6 v6, wSight E a7 v7, wBest E a8 (rf2 (a9 0) (a10 0)) v8, wHouse E a9 v9, wSight E a10 v10, wIntr E a11 v11, wToks E a12 v12, wHRead E a13 (rf1 (a12 0)), wQRead E a14 (rf3 (a12 0) q15 q16) v14, wArr E q15 12 v15, wArr E q16 12 v16, wModel E a17 (rf2 (a17 1) q18) v17, wNm E q18, wLon E q19 v19]) {x4 : Int32} {v0 : GWV} {v1 : HouseV} {v2 : HouseV} {v3 : HistV} {v4 : Nat → HouseV} {v5 : HouseV} {v6 : SightV} {v7 : SightV} {v8 : BestV} {v9 : HouseV} {v10 : SightV} {v11 : IntrV} {v12 : ToksV} {v14 : QReadV} {v15 : Nat → Int32} {v16 : Nat → Int32} {v17 : ModelV} {v19 : Nat → Int64} (hf : Law_2123 L xs k23 x4 v0 v1 v2 v3 v4 v5 v6 v7 v8 v9 v10 v11 v12 v14 v15 v16 v17 v19 = some ()) : WW E K c s Q 2123 [(0, .ref bS), (1, .ref (a0 0)), (2, .ref (a17 0)), (3, .ref q19), (4, .int x4)] [] [wGW E a0 (rf10 (a1 0) (a2 0) (a3 0) (a6 0) (a7 0) (a8 0) (a11 0) (a12 0) (a13 0) (a14 0)) v0, wHouse E a1 v1, wHouse E a2 v2, wHist E a3 (rf2 q4 (a5 0)) v3, wHs E q4 ah4 v4, wHouse E a5 v5, wSight E a6 v6, wSight E a7 v7, wBest E a8 (rf2 (a9 0) (a10 0)) v8, wHouse E a9 v9, wSight E a10 v10, wIntr E a11 v11, wToks E a12 v12, wHRead E a13 (rf1 (a12 0)), wQRead E a14 (rf3 (a12 0) q15 q16) v14, wArr E q15 12 v15, wArr E q16 12 v16, wModel E a17 (rf2 (a17 1) q18) v17, wNm E q18, wLon E q19 v19] := by
  rw [Law_2123] at hf
  refine ww_aload_n C dL_law_2123 rfl 1 rfl ?_
  obtain ⟨p2124, hp2124, hf⟩ := bdE hf
  refine ww_callV C (As := []) (st := []) (gr := [wHouse E a1 v1, wHouse E a2 v2, wHs E q4 ah4 v4, wHouse E a5 v5, wSight E a6 v6, wSight E a7 v7, wBest E a8 (rf2 (a9 0) (a10 0)) v8, wHouse E a9 v9, wSight E a10 v10, wIntr E a11 v11, wToks E a12 v12, wHRead E a13 (rf1 (a12 0)), wQRead E a14 (rf3 (a12 0) q15 q16) v14, wArr E q15 12 v15, wArr E q16 12 v16, wModel E a17 (rf2 (a17 1) q18) v17, wNm E q18, wLon E q19 v19]) (c_X8_undoCount (E := E) (a0 := a0) (h0_0 := a1 0) (h0_1 := a2 0) (h0_3 := a6 0) (h0_4 := a7 0) (h0_5 := a8 0) (h0_6 := a11 0) (h0_7 := a12 0) (h0_8 := a13 0) (h0_9 := a14 0) (a1 := a3) (h1_0 := q4) (h1_1 := a5 0) hp2124) gL_law_X8_undoCount rfl yk_X8_undoCount ⟨by decide, by decide⟩ ⟨by show c + 0 ≤ 601024; omega, by show s + 0 ≤ 7293034; omega⟩ clOK8 0 0 rfl rfl [0, 3] [1, 2, 4, 5, 6, 7, 8, 9, 10, 11, 12, 13, 14, 15, 16, 17, 18, 19] 20 rfl (by decide) rfl rfl (Nat.le_of_ble_eq_true rfl) dL_law_2124 ?_
  rintro _ _ ⟨rfl, rfl⟩
  refine ww_perm (gs' := [wGW E a0 (rf10 (a1 0) (a2 0) (a3 0) (a6 0) (a7 0) (a8 0) (a11 0) (a12 0) (a13 0) (a14 0)) v0, wHouse E a1 v1, wHouse E a2 v2, wHist E a3 (rf2 q4 (a5 0)) v3, wHs E q4 ah4 v4, wHouse E a5 v5, wSight E a6 v6, wSight E a7 v7, wBest E a8 (rf2 (a9 0) (a10 0)) v8, wHouse E a9 v9, wSight E a10 v10, wIntr E a11 v11, wToks E a12 v12, wHRead E a13 (rf1 (a12 0)), wQRead E a14 (rf3 (a12 0) q15 q16) v14, wArr E q15 12 v15, wArr E q16 12 v16, wModel E a17 (rf2 (a17 1) q18) v17, wNm E q18, wLon E q19 v19]) [0, 2, 3, 1, 4, 5, 6, 7, 8, 9, 10, 11, 12, 13, 14, 15, 16, 17, 18, 19] 20 rfl (by decide) rfl ?_
  refine ww_aload_n C dL_law_2127 rfl 2 rfl ?_
  obtain ⟨p2128, hp2128, hf⟩ := bdE hf
  refine ww_callV C (As := []) (st := [.int p2124]) (gr := [wGW E a0 (rf10 (a1 0) (a2 0) (a3 0) (a6 0) (a7 0) (a8 0) (a11 0) (a12 0) (a13 0) (a14 0)) v0, wHouse E a1 v1, wHouse E a2 v2, wHist E a3 (rf2 q4 (a5 0)) v3, wHs E q4 ah4 v4, wHouse E a5 v5, wSight E a6 v6, wSight E a7 v7, wBest E a8 (rf2 (a9 0) (a10 0)) v8, wHouse E a9 v9, wSight E a10 v10, wIntr E a11 v11, wToks E a12 v12, wHRead E a13 (rf1 (a12 0)), wQRead E a14 (rf3 (a12 0) q15 q16) v14, wArr E q15 12 v15, wArr E q16 12 v16, wNm E q18, wLon E q19 v19]) (c_X9_undoCount (E := E) (a0 := a17) (h0_0 := a17 1) (h0_1 := q18) hp2128) gL_law_X9_undoCount rfl yk_X9_undoCount ⟨by decide, by decide⟩ ⟨by show c + 0 + 0 ≤ 601024; omega, by show s + 0 + 0 ≤ 7293034; omega⟩ clOK9 0 0 rfl rfl [17] [0, 1, 2, 3, 4, 5, 6, 7, 8, 9, 10, 11, 12, 13, 14, 15, 16, 18, 19] 20 rfl (by decide) rfl rfl (Nat.le_of_ble_eq_true rfl) dL_law_2128 ?_
  rintro _ _ ⟨rfl, rfl⟩
  refine ww_perm (gs' := [wGW E a0 (rf10 (a1 0) (a2 0) (a3 0) (a6 0) (a7 0) (a8 0) (a11 0) (a12 0) (a13 0) (a14 0)) v0, wHouse E a1 v1, wHouse E a2 v2, wHist E a3 (rf2 q4 (a5 0)) v3, wHs E q4 ah4 v4, wHouse E a5 v5, wSight E a6 v6, wSight E a7 v7, wBest E a8 (rf2 (a9 0) (a10 0)) v8, wHouse E a9 v9, wSight E a10 v10, wIntr E a11 v11, wToks E a12 v12, wHRead E a13 (rf1 (a12 0)), wQRead E a14 (rf3 (a12 0) q15 q16) v14, wArr E q15 12 v15, wArr E q16 12 v16, wModel E a17 (rf2 (a17 1) q18) p2128.2, wNm E q18, wLon E q19 v19]) [1, 2, 3, 4, 5, 6, 7, 8, 9, 10, 11, 12, 13, 14, 15, 16, 17, 0, 18, 19] 20 rfl (by decide) rfl ?_
  refine ww_icmp_eq (tgt := 2229) C dL_law_2131 (by decide) (fun c_10 => ?_) (fun c_10 => ?_)
  · replace hf := ifT c_10 hf
    obtain ⟨x4_2229, e_x4_2229⟩ : ∃ y : Int32, y = x4 + 6 := ⟨_, rfl⟩
    replace hf := ltE e_x4_2229 hf
    refine ww_iinc (v := x4_2229) (lv' := [(4, .int x4_2229), (0, .ref bS), (1, .ref (a0 0)), (2, .ref (a17 0)), (3, .ref q19)]) C dL_law_2229 4 rfl (by rw [e_x4_2229]; rfl) (by decide) rfl ?_
    refine ww_goto (tgt := 23) C dL_law_2232 (by decide) ?_
    refine ww_sub C (lv' := [(0, .ref bS), (1, .ref (a0 0)), (2, .ref (a17 0)), (3, .ref q19), (4, .int x4_2229)]) [1, 2, 3, 4, 0] rfl ?_
    refine ww_widen (k := c + 3) (n := s + 18) (by show c + 0 + 0 ≤ c + 3; omega) (by show s + 0 + 0 ≤ s + 18; omega) ?_
    exact hk23 _ _ _ _ _ _ _ _ _ _ _ _ _ _ _ _ _ _ _ hf
  · replace hf := ifF c_10 hf
    refine ww_iconst (v := 0) C dL_law_2134 (by decide) ?_
    cases hf

set_option maxHeartbeats 8000000 in
set_option maxRecDepth 100000 in
theorem w_L_law_2136 {E : Ex} {K : Kx} (C : Cx E K cL_law 9 (some .boolean) RL wsL_law rmL_law) {a0 : Nat → Nat} {a1 : Nat → Nat} {a2 : Nat → Nat} {a3 : Nat → Nat} {q4 : Nat} {ah4 : Nat → Nat → Nat} {a5 : Nat → Nat} {a6 : Nat → Nat} {a7 : Nat → Nat} {a8 : Nat → Nat} {a9 : Nat → Nat} {a10 : Nat → Nat} {a11 : Nat → Nat} {a12 : Nat → Nat} {a13 : Nat → Nat} {a14 : Nat → Nat} {q15 : Nat} {q16 : Nat} {a17 : Nat → Nat} {q18 : Nat} {q19 : Nat} {bS L : Nat} {xs : Nat → Int32} {Q : State → Prop} (T0 : TL E K) (S0 : SX bS L xs K) (HR : ∀ (c s : Nat) (lv : List (Nat × Value)) (gs : List va_W), c ≤ 601024 → s ≤ 7293034 → WW E K c s Q 2236 lv [.int 1] gs) {c s : Nat} (hc : c + 3 ≤ 601024) (hs : s + 18 ≤ 7293034) {k23 : Int32 → GWV → HouseV → HouseV → HistV → (Nat → HouseV) → HouseV → SightV → SightV → BestV → HouseV → SightV → IntrV → ToksV → QReadV → (Nat → Int32) → (Nat → Int32) → ModelV → (Nat → Int64) → Option Unit} (hk23 : ∀ (x4 : Int32) (v0 : GWV) (v1 : HouseV) (v2 : HouseV) (v3 : HistV) (v4 : Nat → HouseV) (v5 : HouseV) (v6 : SightV) (v7 : SightV) (v8 : BestV) (v9 : HouseV) (v10 : SightV) (v11 : IntrV) (v12 : ToksV) (v14 : QReadV) (v15 : Nat → Int32) (v16 : Nat → Int32) (v17 : ModelV) (v19 : Nat → Int64), k23 x4 v0 v1 v2 v3 v4 v5 v6 v7 v8 v9 v10 v11 v12 v14 v15 v16 v17 v19 = some () → WW E K (c + 3) (s + 18) Q 23 [(0, .ref bS), (1, .ref (a0 0)), (2, .ref (a17 0)), (3, .ref q19), (4, .int x4)] [] [wGW E a0 (rf10 (a1 0) (a2 0) (a3 0) (a6 0) (a7 0) (a8 0) (a11 0) (a12 0) (a13 0) (a14 0)) v0, wHouse E a1 v1, wHouse E a2 v2, wHist E a3 (rf2 q4 (a5 0)) v3, wHs E q4 ah4 v4, wHouse E a5 v5, wSight E a6 v6, wSight E a7 v7, wBest E a8 (rf2 (a9 0) (a10 0)) v8, wHouse E a9 v9, wSight E a10 v10, wIntr E a11 v11, wToks E a12 v12, wHRead E a13 (rf1 (a12 0)), wQRead E a14 (rf3 (a12 0) q15 q16) v14, wArr E q15 12 v15, wArr E q16 12 v16, wModel E a17 (rf2 (a17 1) q18) v17, wNm E q18, wLon E q19 v19]) {x4 : Int32} {v0 : GWV} {v1 : HouseV} {v2 : HouseV} {v3 : HistV} {v4 : Nat → HouseV} {v5 : HouseV} {v6 : SightV} {v7 : SightV} {v8 : BestV} {v9 : HouseV} {v10 : SightV} {v11 : IntrV} {v12 : ToksV} {v14 : QReadV} {v15 : Nat → Int32} {v16 : Nat → Int32} {v17 : ModelV} {v19 : Nat → Int64} (hf : Law_2136 L xs k23 x4 v0 v1 v2 v3 v4 v5 v6 v7 v8 v9 v10 v11 v12 v14 v15 v16 v17 v19 = some ()) : WW E K c s Q 2136 [(0, .ref bS), (1, .ref (a0 0)), (2, .ref (a17 0)), (3, .ref q19), (4, .int x4)] [] [wGW E a0 (rf10 (a1 0) (a2 0) (a3 0) (a6 0) (a7 0) (a8 0) (a11 0) (a12 0) (a13 0) (a14 0)) v0, wHouse E a1 v1, wHouse E a2 v2, wHist E a3 (rf2 q4 (a5 0)) v3, wHs E q4 ah4 v4, wHouse E a5 v5, wSight E a6 v6, wSight E a7 v7, wBest E a8 (rf2 (a9 0) (a10 0)) v8, wHouse E a9 v9, wSight E a10 v10, wIntr E a11 v11, wToks E a12 v12, wHRead E a13 (rf1 (a12 0)), wQRead E a14 (rf3 (a12 0) q15 q16) v14, wArr E q15 12 v15, wArr E q16 12 v16, wModel E a17 (rf2 (a17 1) q18) v17, wNm E q18, wLon E q19 v19] := by
  rw [Law_2136] at hf
  refine ww_aload_n C dL_law_2136 rfl 1 rfl ?_
  obtain ⟨p2137, hp2137, hf⟩ := bdE hf
  refine ww_callV C (As := []) (st := []) (gr := [wHouse E a2 v2, wHouse E a5 v5, wSight E a6 v6, wSight E a7 v7, wBest E a8 (rf2 (a9 0) (a10 0)) v8, wHouse E a9 v9, wSight E a10 v10, wIntr E a11 v11, wToks E a12 v12, wHRead E a13 (rf1 (a12 0)), wQRead E a14 (rf3 (a12 0) q15 q16) v14, wArr E q15 12 v15, wArr E q16 12 v16, wModel E a17 (rf2 (a17 1) q18) v17, wNm E q18, wLon E q19 v19]) (c_X8_undo (E := E) (a0 := a0) (h0_1 := a2 0) (h0_3 := a6 0) (h0_4 := a7 0) (h0_5 := a8 0) (h0_6 := a11 0) (h0_7 := a12 0) (h0_8 := a13 0) (h0_9 := a14 0) (a1 := a1) (a2 := a3) (h2_1 := a5 0) (q3 := q4) (ah3 := ah4) hp2137) gL_law_X8_undo rfl yk_X8_undo ⟨by decide, by decide⟩ ⟨by show c + 0 ≤ 601024; omega, by show s + 0 ≤ 7293034; omega⟩ clOK8 0 0 rfl rfl [0, 1, 3, 4] [2, 5, 6, 7, 8, 9, 10, 11, 12, 13, 14, 15, 16, 17, 18, 19] 20 rfl (by decide) rfl rfl (Nat.le_of_ble_eq_true rfl) dL_law_2137 ?_
  rintro _ _ ⟨rfl, rfl⟩
  refine ww_perm (gs' := [wGW E a0 (rf10 (a1 0) (a2 0) (a3 0) (a6 0) (a7 0) (a8 0) (a11 0) (a12 0) (a13 0) (a14 0)) v0, wHouse E a1 p2137.2.1, wHouse E a2 v2, wHist E a3 (rf2 q4 (a5 0)) p2137.2.2, wHs E q4 ah4 v4, wHouse E a5 v5, wSight E a6 v6, wSight E a7 v7, wBest E a8 (rf2 (a9 0) (a10 0)) v8, wHouse E a9 v9, wSight E a10 v10, wIntr E a11 v11, wToks E a12 v12, wHRead E a13 (rf1 (a12 0)), wQRead E a14 (rf3 (a12 0) q15 q16) v14, wArr E q15 12 v15, wArr E q16 12 v16, wModel E a17 (rf2 (a17 1) q18) v17, wNm E q18, wLon E q19 v19]) [0, 1, 4, 2, 3, 5, 6, 7, 8, 9, 10, 11, 12, 13, 14, 15, 16, 17, 18, 19] 20 rfl (by decide) rfl ?_
  refine ww_aload_n C dL_law_2140 rfl 2 rfl ?_
  obtain ⟨p2141, hp2141, hf⟩ := bdE hf
  refine ww_callV C (As := []) (st := [.int p2137.1]) (gr := [wGW E a0 (rf10 (a1 0) (a2 0) (a3 0) (a6 0) (a7 0) (a8 0) (a11 0) (a12 0) (a13 0) (a14 0)) v0, wHouse E a1 p2137.2.1, wHouse E a2 v2, wHist E a3 (rf2 q4 (a5 0)) p2137.2.2, wHs E q4 ah4 v4, wHouse E a5 v5, wSight E a6 v6, wSight E a7 v7, wBest E a8 (rf2 (a9 0) (a10 0)) v8, wHouse E a9 v9, wSight E a10 v10, wIntr E a11 v11, wToks E a12 v12, wHRead E a13 (rf1 (a12 0)), wQRead E a14 (rf3 (a12 0) q15 q16) v14, wArr E q15 12 v15, wArr E q16 12 v16, wNm E q18, wLon E q19 v19]) (c_X9_undo (E := E) (a0 := a17) (h0_0 := a17 1) (h0_1 := q18) hp2141) gL_law_X9_undo rfl yk_X9_undo ⟨by decide, by decide⟩ ⟨by show c + 0 + 0 ≤ 601024; omega, by show s + 0 + 0 ≤ 7293034; omega⟩ clOK9 0 0 rfl rfl [17] [0, 1, 2, 3, 4, 5, 6, 7, 8, 9, 10, 11, 12, 13, 14, 15, 16, 18, 19] 20 rfl (by decide) rfl rfl (Nat.le_of_ble_eq_true rfl) dL_law_2141 ?_
  rintro _ _ ⟨rfl, rfl⟩
  refine ww_perm (gs' := [wGW E a0 (rf10 (a1 0) (a2 0) (a3 0) (a6 0) (a7 0) (a8 0) (a11 0) (a12 0) (a13 0) (a14 0)) v0, wHouse E a1 p2137.2.1, wHouse E a2 v2, wHist E a3 (rf2 q4 (a5 0)) p2137.2.2, wHs E q4 ah4 v4, wHouse E a5 v5, wSight E a6 v6, wSight E a7 v7, wBest E a8 (rf2 (a9 0) (a10 0)) v8, wHouse E a9 v9, wSight E a10 v10, wIntr E a11 v11, wToks E a12 v12, wHRead E a13 (rf1 (a12 0)), wQRead E a14 (rf3 (a12 0) q15 q16) v14, wArr E q15 12 v15, wArr E q16 12 v16, wModel E a17 (rf2 (a17 1) q18) p2141.2, wNm E q18, wLon E q19 v19]) [1, 2, 3, 4, 5, 6, 7, 8, 9, 10, 11, 12, 13, 14, 15, 16, 17, 0, 18, 19] 20 rfl (by decide) rfl ?_
  refine ww_icmp_eq (tgt := 2229) C dL_law_2144 (by decide) (fun c_9 => ?_) (fun c_9 => ?_)
  · replace hf := ifT c_9 hf
    obtain ⟨x4_2229, e_x4_2229⟩ : ∃ y : Int32, y = x4 + 6 := ⟨_, rfl⟩
    replace hf := ltE e_x4_2229 hf
    refine ww_iinc (v := x4_2229) (lv' := [(4, .int x4_2229), (0, .ref bS), (1, .ref (a0 0)), (2, .ref (a17 0)), (3, .ref q19)]) C dL_law_2229 4 rfl (by rw [e_x4_2229]; rfl) (by decide) rfl ?_
    refine ww_goto (tgt := 23) C dL_law_2232 (by decide) ?_
    refine ww_sub C (lv' := [(0, .ref bS), (1, .ref (a0 0)), (2, .ref (a17 0)), (3, .ref q19), (4, .int x4_2229)]) [1, 2, 3, 4, 0] rfl ?_
    refine ww_widen (k := c + 3) (n := s + 18) (by show c + 0 + 0 ≤ c + 3; omega) (by show s + 0 + 0 ≤ s + 18; omega) ?_
    exact hk23 _ _ _ _ _ _ _ _ _ _ _ _ _ _ _ _ _ _ _ hf
  · replace hf := ifF c_9 hf
    refine ww_iconst (v := 0) C dL_law_2147 (by decide) ?_
    cases hf

set_option maxHeartbeats 8000000 in
set_option maxRecDepth 100000 in
theorem w_L_law_2149 {E : Ex} {K : Kx} (C : Cx E K cL_law 9 (some .boolean) RL wsL_law rmL_law) {a0 : Nat → Nat} {a1 : Nat → Nat} {a2 : Nat → Nat} {a3 : Nat → Nat} {q4 : Nat} {ah4 : Nat → Nat → Nat} {a5 : Nat → Nat} {a6 : Nat → Nat} {a7 : Nat → Nat} {a8 : Nat → Nat} {a9 : Nat → Nat} {a10 : Nat → Nat} {a11 : Nat → Nat} {a12 : Nat → Nat} {a13 : Nat → Nat} {a14 : Nat → Nat} {q15 : Nat} {q16 : Nat} {a17 : Nat → Nat} {q18 : Nat} {q19 : Nat} {bS L : Nat} {xs : Nat → Int32} {Q : State → Prop} (T0 : TL E K) (S0 : SX bS L xs K) (HR : ∀ (c s : Nat) (lv : List (Nat × Value)) (gs : List va_W), c ≤ 601024 → s ≤ 7293034 → WW E K c s Q 2236 lv [.int 1] gs) {c s : Nat} (hc : c + 3 ≤ 601024) (hs : s + 18 ≤ 7293034) {k23 : Int32 → GWV → HouseV → HouseV → HistV → (Nat → HouseV) → HouseV → SightV → SightV → BestV → HouseV → SightV → IntrV → ToksV → QReadV → (Nat → Int32) → (Nat → Int32) → ModelV → (Nat → Int64) → Option Unit} (hk23 : ∀ (x4 : Int32) (v0 : GWV) (v1 : HouseV) (v2 : HouseV) (v3 : HistV) (v4 : Nat → HouseV) (v5 : HouseV) (v6 : SightV) (v7 : SightV) (v8 : BestV) (v9 : HouseV) (v10 : SightV) (v11 : IntrV) (v12 : ToksV) (v14 : QReadV) (v15 : Nat → Int32) (v16 : Nat → Int32) (v17 : ModelV) (v19 : Nat → Int64), k23 x4 v0 v1 v2 v3 v4 v5 v6 v7 v8 v9 v10 v11 v12 v14 v15 v16 v17 v19 = some () → WW E K (c + 3) (s + 18) Q 23 [(0, .ref bS), (1, .ref (a0 0)), (2, .ref (a17 0)), (3, .ref q19), (4, .int x4)] [] [wGW E a0 (rf10 (a1 0) (a2 0) (a3 0) (a6 0) (a7 0) (a8 0) (a11 0) (a12 0) (a13 0) (a14 0)) v0, wHouse E a1 v1, wHouse E a2 v2, wHist E a3 (rf2 q4 (a5 0)) v3, wHs E q4 ah4 v4, wHouse E a5 v5, wSight E a6 v6, wSight E a7 v7, wBest E a8 (rf2 (a9 0) (a10 0)) v8, wHouse E a9 v9, wSight E a10 v10, wIntr E a11 v11, wToks E a12 v12, wHRead E a13 (rf1 (a12 0)), wQRead E a14 (rf3 (a12 0) q15 q16) v14, wArr E q15 12 v15, wArr E q16 12 v16, wModel E a17 (rf2 (a17 1) q18) v17, wNm E q18, wLon E q19 v19]) {x4 : Int32} {v0 : GWV} {v1 : HouseV} {v2 : HouseV} {v3 : HistV} {v4 : Nat → HouseV} {v5 : HouseV} {v6 : SightV} {v7 : SightV} {v8 : BestV} {v9 : HouseV} {v10 : SightV} {v11 : IntrV} {v12 : ToksV} {v14 : QReadV} {v15 : Nat → Int32} {v16 : Nat → Int32} {v17 : ModelV} {v19 : Nat → Int64} (hf : Law_2149 L xs k23 x4 v0 v1 v2 v3 v4 v5 v6 v7 v8 v9 v10 v11 v12 v14 v15 v16 v17 v19 = some ()) : WW E K c s Q 2149 [(0, .ref bS), (1, .ref (a0 0)), (2, .ref (a17 0)), (3, .ref q19), (4, .int x4)] [] [wGW E a0 (rf10 (a1 0) (a2 0) (a3 0) (a6 0) (a7 0) (a8 0) (a11 0) (a12 0) (a13 0) (a14 0)) v0, wHouse E a1 v1, wHouse E a2 v2, wHist E a3 (rf2 q4 (a5 0)) v3, wHs E q4 ah4 v4, wHouse E a5 v5, wSight E a6 v6, wSight E a7 v7, wBest E a8 (rf2 (a9 0) (a10 0)) v8, wHouse E a9 v9, wSight E a10 v10, wIntr E a11 v11, wToks E a12 v12, wHRead E a13 (rf1 (a12 0)), wQRead E a14 (rf3 (a12 0) q15 q16) v14, wArr E q15 12 v15, wArr E q16 12 v16, wModel E a17 (rf2 (a17 1) q18) v17, wNm E q18, wLon E q19 v19] := by
  rw [Law_2149] at hf
  refine ww_aload_n C dL_law_2149 rfl 1 rfl ?_
  obtain ⟨p2150, hp2150, hf⟩ := bdE hf
  refine ww_callV C (As := []) (st := []) (gr := [wHouse E a2 v2, wHs E q4 ah4 v4, wSight E a6 v6, wSight E a7 v7, wBest E a8 (rf2 (a9 0) (a10 0)) v8, wHouse E a9 v9, wSight E a10 v10, wIntr E a11 v11, wToks E a12 v12, wHRead E a13 (rf1 (a12 0)), wQRead E a14 (rf3 (a12 0) q15 q16) v14, wArr E q15 12 v15, wArr E q16 12 v16, wModel E a17 (rf2 (a17 1) q18) v17, wNm E q18, wLon E q19 v19]) (c_X8_saveSnapshot (E := E) (a0 := a0) (h0_1 := a2 0) (h0_3 := a6 0) (h0_4 := a7 0) (h0_5 := a8 0) (h0_6 := a11 0) (h0_7 := a12 0) (h0_8 := a13 0) (h0_9 := a14 0) (a1 := a1) (a2 := a3) (h2_0 := q4) (a3 := a5) hp2150) gL_law_X8_saveSnapshot rfl yk_X8_saveSnapshot ⟨by decide, by decide⟩ ⟨by show c + 0 ≤ 601024; omega, by show s + 0 ≤ 7293034; omega⟩ clOK8 0 0 rfl rfl [0, 1, 3, 5] [2, 4, 6, 7, 8, 9, 10, 11, 12, 13, 14, 15, 16, 17, 18, 19] 20 rfl (by decide) rfl rfl (Nat.le_of_ble_eq_true rfl) dL_law_2150 ?_
  rintro _ _ ⟨rfl, rfl⟩
  refine ww_perm (gs' := [wGW E a0 (rf10 (a1 0) (a2 0) (a3 0) (a6 0) (a7 0) (a8 0) (a11 0) (a12 0) (a13 0) (a14 0)) v0, wHouse E a1 v1, wHouse E a2 v2, wHist E a3 (rf2 q4 (a5 0)) p2150.1, wHs E q4 ah4 v4, wHouse E a5 p2150.2, wSight E a6 v6, wSight E a7 v7, wBest E a8 (rf2 (a9 0) (a10 0)) v8, wHouse E a9 v9, wSight E a10 v10, wIntr E a11 v11, wToks E a12 v12, wHRead E a13 (rf1 (a12 0)), wQRead E a14 (rf3 (a12 0) q15 q16) v14, wArr E q15 12 v15, wArr E q16 12 v16, wModel E a17 (rf2 (a17 1) q18) v17, wNm E q18, wLon E q19 v19]) [0, 1, 4, 2, 5, 3, 6, 7, 8, 9, 10, 11, 12, 13, 14, 15, 16, 17, 18, 19] 20 rfl (by decide) rfl ?_
  refine ww_aload_n C dL_law_2153 rfl 2 rfl ?_
  obtain ⟨p2154, hp2154, hf⟩ := bdE hf
  refine ww_callV C (As := []) (st := []) (gr := [wGW E a0 (rf10 (a1 0) (a2 0) (a3 0) (a6 0) (a7 0) (a8 0) (a11 0) (a12 0) (a13 0) (a14 0)) v0, wHouse E a1 v1, wHouse E a2 v2, wHist E a3 (rf2 q4 (a5 0)) p2150.1, wHs E q4 ah4 v4, wHouse E a5 p2150.2, wSight E a6 v6, wSight E a7 v7, wBest E a8 (rf2 (a9 0) (a10 0)) v8, wHouse E a9 v9, wSight E a10 v10, wIntr E a11 v11, wToks E a12 v12, wHRead E a13 (rf1 (a12 0)), wQRead E a14 (rf3 (a12 0) q15 q16) v14, wArr E q15 12 v15, wArr E q16 12 v16, wNm E q18, wLon E q19 v19]) (c_X9_saveSnapshot (E := E) (a0 := a17) (h0_0 := a17 1) (h0_1 := q18) hp2154) gL_law_X9_saveSnapshot rfl yk_X9_saveSnapshot ⟨by decide, by decide⟩ ⟨by show c + 0 + 0 ≤ 601024; omega, by show s + 0 + 0 ≤ 7293034; omega⟩ clOK9 0 0 rfl rfl [17] [0, 1, 2, 3, 4, 5, 6, 7, 8, 9, 10, 11, 12, 13, 14, 15, 16, 18, 19] 20 rfl (by decide) rfl rfl (Nat.le_of_ble_eq_true rfl) dL_law_2154 ?_
  rintro _ _ ⟨rfl, rfl⟩
  refine ww_perm (gs' := [wGW E a0 (rf10 (a1 0) (a2 0) (a3 0) (a6 0) (a7 0) (a8 0) (a11 0) (a12 0) (a13 0) (a14 0)) v0, wHouse E a1 v1, wHouse E a2 v2, wHist E a3 (rf2 q4 (a5 0)) p2150.1, wHs E q4 ah4 v4, wHouse E a5 p2150.2, wSight E a6 v6, wSight E a7 v7, wBest E a8 (rf2 (a9 0) (a10 0)) v8, wHouse E a9 v9, wSight E a10 v10, wIntr E a11 v11, wToks E a12 v12, wHRead E a13 (rf1 (a12 0)), wQRead E a14 (rf3 (a12 0) q15 q16) v14, wArr E q15 12 v15, wArr E q16 12 v16, wModel E a17 (rf2 (a17 1) q18) p2154, wNm E q18, wLon E q19 v19]) [1, 2, 3, 4, 5, 6, 7, 8, 9, 10, 11, 12, 13, 14, 15, 16, 17, 0, 18, 19] 20 rfl (by decide) rfl ?_
  refine ww_goto (tgt := 2229) C dL_law_2157 (by decide) ?_
  obtain ⟨x4_2229, e_x4_2229⟩ : ∃ y : Int32, y = x4 + 6 := ⟨_, rfl⟩
  replace hf := ltE e_x4_2229 hf
  refine ww_iinc (v := x4_2229) (lv' := [(4, .int x4_2229), (0, .ref bS), (1, .ref (a0 0)), (2, .ref (a17 0)), (3, .ref q19)]) C dL_law_2229 4 rfl (by rw [e_x4_2229]; rfl) (by decide) rfl ?_
  refine ww_goto (tgt := 23) C dL_law_2232 (by decide) ?_
  refine ww_sub C (lv' := [(0, .ref bS), (1, .ref (a0 0)), (2, .ref (a17 0)), (3, .ref q19), (4, .int x4_2229)]) [1, 2, 3, 4, 0] rfl ?_
  refine ww_widen (k := c + 3) (n := s + 18) (by show c + 0 + 0 ≤ c + 3; omega) (by show s + 0 + 0 ≤ s + 18; omega) ?_
  exact hk23 _ _ _ _ _ _ _ _ _ _ _ _ _ _ _ _ _ _ _ hf

set_option maxHeartbeats 8000000 in
set_option maxRecDepth 100000 in
theorem w_L_law_2160 {E : Ex} {K : Kx} (C : Cx E K cL_law 9 (some .boolean) RL wsL_law rmL_law) {a0 : Nat → Nat} {a1 : Nat → Nat} {a2 : Nat → Nat} {a3 : Nat → Nat} {q4 : Nat} {ah4 : Nat → Nat → Nat} {a5 : Nat → Nat} {a6 : Nat → Nat} {a7 : Nat → Nat} {a8 : Nat → Nat} {a9 : Nat → Nat} {a10 : Nat → Nat} {a11 : Nat → Nat} {a12 : Nat → Nat} {a13 : Nat → Nat} {a14 : Nat → Nat} {q15 : Nat} {q16 : Nat} {a17 : Nat → Nat} {q18 : Nat} {q19 : Nat} {bS L : Nat} {xs : Nat → Int32} {Q : State → Prop} (T0 : TL E K) (S0 : SX bS L xs K) (HR : ∀ (c s : Nat) (lv : List (Nat × Value)) (gs : List va_W), c ≤ 601024 → s ≤ 7293034 → WW E K c s Q 2236 lv [.int 1] gs) {c s : Nat} (hc : c + 3 ≤ 601024) (hs : s + 18 ≤ 7293034) {k23 : Int32 → GWV → HouseV → HouseV → HistV → (Nat → HouseV) → HouseV → SightV → SightV → BestV → HouseV → SightV → IntrV → ToksV → QReadV → (Nat → Int32) → (Nat → Int32) → ModelV → (Nat → Int64) → Option Unit} (hk23 : ∀ (x4 : Int32) (v0 : GWV) (v1 : HouseV) (v2 : HouseV) (v3 : HistV) (v4 : Nat → HouseV) (v5 : HouseV) (v6 : SightV) (v7 : SightV) (v8 : BestV) (v9 : HouseV) (v10 : SightV) (v11 : IntrV) (v12 : ToksV) (v14 : QReadV) (v15 : Nat → Int32) (v16 : Nat → Int32) (v17 : ModelV) (v19 : Nat → Int64), k23 x4 v0 v1 v2 v3 v4 v5 v6 v7 v8 v9 v10 v11 v12 v14 v15 v16 v17 v19 = some () → WW E K (c + 3) (s + 18) Q 23 [(0, .ref bS), (1, .ref (a0 0)), (2, .ref (a17 0)), (3, .ref q19), (4, .int x4)] [] [wGW E a0 (rf10 (a1 0) (a2 0) (a3 0) (a6 0) (a7 0) (a8 0) (a11 0) (a12 0) (a13 0) (a14 0)) v0, wHouse E a1 v1, wHouse E a2 v2, wHist E a3 (rf2 q4 (a5 0)) v3, wHs E q4 ah4 v4, wHouse E a5 v5, wSight E a6 v6, wSight E a7 v7, wBest E a8 (rf2 (a9 0) (a10 0)) v8, wHouse E a9 v9, wSight E a10 v10, wIntr E a11 v11, wToks E a12 v12, wHRead E a13 (rf1 (a12 0)), wQRead E a14 (rf3 (a12 0) q15 q16) v14, wArr E q15 12 v15, wArr E q16 12 v16, wModel E a17 (rf2 (a17 1) q18) v17, wNm E q18, wLon E q19 v19]) {x4 : Int32} {v0 : GWV} {v1 : HouseV} {v2 : HouseV} {v3 : HistV} {v4 : Nat → HouseV} {v5 : HouseV} {v6 : SightV} {v7 : SightV} {v8 : BestV} {v9 : HouseV} {v10 : SightV} {v11 : IntrV} {v12 : ToksV} {v14 : QReadV} {v15 : Nat → Int32} {v16 : Nat → Int32} {v17 : ModelV} {v19 : Nat → Int64} (hf : Law_2160 L xs k23 x4 v0 v1 v2 v3 v4 v5 v6 v7 v8 v9 v10 v11 v12 v14 v15 v16 v17 v19 = some ()) : WW E K c s Q 2160 [(0, .ref bS), (1, .ref (a0 0)), (2, .ref (a17 0)), (3, .ref q19), (4, .int x4)] [] [wGW E a0 (rf10 (a1 0) (a2 0) (a3 0) (a6 0) (a7 0) (a8 0) (a11 0) (a12 0) (a13 0) (a14 0)) v0, wHouse E a1 v1, wHouse E a2 v2, wHist E a3 (rf2 q4 (a5 0)) v3, wHs E q4 ah4 v4, wHouse E a5 v5, wSight E a6 v6, wSight E a7 v7, wBest E a8 (rf2 (a9 0) (a10 0)) v8, wHouse E a9 v9, wSight E a10 v10, wIntr E a11 v11, wToks E a12 v12, wHRead E a13 (rf1 (a12 0)), wQRead E a14 (rf3 (a12 0) q15 q16) v14, wArr E q15 12 v15, wArr E q16 12 v16, wModel E a17 (rf2 (a17 1) q18) v17, wNm E q18, wLon E q19 v19] := by
  rw [Law_2160] at hf
  refine ww_aload_n C dL_law_2160 rfl 1 rfl ?_
  obtain ⟨p2161, hp2161, hf⟩ := bdE hf
  refine ww_callV C (As := []) (st := []) (gr := [wHouse E a2 v2, wHs E q4 ah4 v4, wSight E a6 v6, wSight E a7 v7, wBest E a8 (rf2 (a9 0) (a10 0)) v8, wHouse E a9 v9, wSight E a10 v10, wIntr E a11 v11, wToks E a12 v12, wHRead E a13 (rf1 (a12 0)), wQRead E a14 (rf3 (a12 0) q15 q16) v14, wArr E q15 12 v15, wArr E q16 12 v16, wModel E a17 (rf2 (a17 1) q18) v17, wNm E q18, wLon E q19 v19]) (c_X8_restoreSnapshot (E := E) (a0 := a0) (h0_1 := a2 0) (h0_3 := a6 0) (h0_4 := a7 0) (h0_5 := a8 0) (h0_6 := a11 0) (h0_7 := a12 0) (h0_8 := a13 0) (h0_9 := a14 0) (a1 := a1) (a2 := a3) (h2_0 := q4) (a3 := a5) hp2161) gL_law_X8_restoreSnapshot rfl yk_X8_restoreSnapshot ⟨by decide, by decide⟩ ⟨by show c + 0 ≤ 601024; omega, by show s + 0 ≤ 7293034; omega⟩ clOK8 0 0 rfl rfl [0, 1, 3, 5] [2, 4, 6, 7, 8, 9, 10, 11, 12, 13, 14, 15, 16, 17, 18, 19] 20 rfl (by decide) rfl rfl (Nat.le_of_ble_eq_true rfl) dL_law_2161 ?_
  rintro _ _ ⟨rfl, rfl⟩
  refine ww_perm (gs' := [wGW E a0 (rf10 (a1 0) (a2 0) (a3 0) (a6 0) (a7 0) (a8 0) (a11 0) (a12 0) (a13 0) (a14 0)) v0, wHouse E a1 p2161.2.1, wHouse E a2 v2, wHist E a3 (rf2 q4 (a5 0)) p2161.2.2, wHs E q4 ah4 v4, wHouse E a5 v5, wSight E a6 v6, wSight E a7 v7, wBest E a8 (rf2 (a9 0) (a10 0)) v8, wHouse E a9 v9, wSight E a10 v10, wIntr E a11 v11, wToks E a12 v12, wHRead E a13 (rf1 (a12 0)), wQRead E a14 (rf3 (a12 0) q15 q16) v14, wArr E q15 12 v15, wArr E q16 12 v16, wModel E a17 (rf2 (a17 1) q18) v17, wNm E q18, wLon E q19 v19]) [0, 1, 4, 2, 5, 3, 6, 7, 8, 9, 10, 11, 12, 13, 14, 15, 16, 17, 18, 19] 20 rfl (by decide) rfl ?_
  refine ww_aload_n C dL_law_2164 rfl 2 rfl ?_
  obtain ⟨p2165, hp2165, hf⟩ := bdE hf
  refine ww_callV C (As := []) (st := [.int (b2i p2161.1)]) (gr := [wGW E a0 (rf10 (a1 0) (a2 0) (a3 0) (a6 0) (a7 0) (a8 0) (a11 0) (a12 0) (a13 0) (a14 0)) v0, wHouse E a1 p2161.2.1, wHouse E a2 v2, wHist E a3 (rf2 q4 (a5 0)) p2161.2.2, wHs E q4 ah4 v4, wHouse E a5 v5, wSight E a6 v6, wSight E a7 v7, wBest E a8 (rf2 (a9 0) (a10 0)) v8, wHouse E a9 v9, wSight E a10 v10, wIntr E a11 v11, wToks E a12 v12, wHRead E a13 (rf1 (a12 0)), wQRead E a14 (rf3 (a12 0) q15 q16) v14, wArr E q15 12 v15, wArr E q16 12 v16, wNm E q18, wLon E q19 v19]) (c_X9_restoreSnapshot (E := E) (a0 := a17) (h0_0 := a17 1) (h0_1 := q18) hp2165) gL_law_X9_restoreSnapshot rfl yk_X9_restoreSnapshot ⟨by decide, by decide⟩ ⟨by show c + 0 + 0 ≤ 601024; omega, by show s + 0 + 0 ≤ 7293034; omega⟩ clOK9 0 0 rfl rfl [17] [0, 1, 2, 3, 4, 5, 6, 7, 8, 9, 10, 11, 12, 13, 14, 15, 16, 18, 19] 20 rfl (by decide) rfl rfl (Nat.le_of_ble_eq_true rfl) dL_law_2165 ?_
  rintro _ _ ⟨rfl, rfl⟩
  refine ww_perm (gs' := [wGW E a0 (rf10 (a1 0) (a2 0) (a3 0) (a6 0) (a7 0) (a8 0) (a11 0) (a12 0) (a13 0) (a14 0)) v0, wHouse E a1 p2161.2.1, wHouse E a2 v2, wHist E a3 (rf2 q4 (a5 0)) p2161.2.2, wHs E q4 ah4 v4, wHouse E a5 v5, wSight E a6 v6, wSight E a7 v7, wBest E a8 (rf2 (a9 0) (a10 0)) v8, wHouse E a9 v9, wSight E a10 v10, wIntr E a11 v11, wToks E a12 v12, wHRead E a13 (rf1 (a12 0)), wQRead E a14 (rf3 (a12 0) q15 q16) v14, wArr E q15 12 v15, wArr E q16 12 v16, wModel E a17 (rf2 (a17 1) q18) p2165.2, wNm E q18, wLon E q19 v19]) [1, 2, 3, 4, 5, 6, 7, 8, 9, 10, 11, 12, 13, 14, 15, 16, 17, 0, 18, 19] 20 rfl (by decide) rfl ?_
  refine ww_icmp_eq (tgt := 2229) C dL_law_2168 (by decide) (fun c_8 => ?_) (fun c_8 => ?_)
  · replace hf := ifT c_8 hf
    obtain ⟨x4_2229, e_x4_2229⟩ : ∃ y : Int32, y = x4 + 6 := ⟨_, rfl⟩
    replace hf := ltE e_x4_2229 hf
    refine ww_iinc (v := x4_2229) (lv' := [(4, .int x4_2229), (0, .ref bS), (1, .ref (a0 0)), (2, .ref (a17 0)), (3, .ref q19)]) C dL_law_2229 4 rfl (by rw [e_x4_2229]; rfl) (by decide) rfl ?_
    refine ww_goto (tgt := 23) C dL_law_2232 (by decide) ?_
    refine ww_sub C (lv' := [(0, .ref bS), (1, .ref (a0 0)), (2, .ref (a17 0)), (3, .ref q19), (4, .int x4_2229)]) [1, 2, 3, 4, 0] rfl ?_
    refine ww_widen (k := c + 3) (n := s + 18) (by show c + 0 + 0 ≤ c + 3; omega) (by show s + 0 + 0 ≤ s + 18; omega) ?_
    exact hk23 _ _ _ _ _ _ _ _ _ _ _ _ _ _ _ _ _ _ _ hf
  · replace hf := ifF c_8 hf
    refine ww_iconst (v := 0) C dL_law_2171 (by decide) ?_
    cases hf

set_option maxHeartbeats 8000000 in
set_option maxRecDepth 100000 in
theorem w_L_law_2173 {E : Ex} {K : Kx} (C : Cx E K cL_law 9 (some .boolean) RL wsL_law rmL_law) {a0 : Nat → Nat} {a1 : Nat → Nat} {a2 : Nat → Nat} {a3 : Nat → Nat} {q4 : Nat} {ah4 : Nat → Nat → Nat} {a5 : Nat → Nat} {a6 : Nat → Nat} {a7 : Nat → Nat} {a8 : Nat → Nat} {a9 : Nat → Nat} {a10 : Nat → Nat} {a11 : Nat → Nat} {a12 : Nat → Nat} {a13 : Nat → Nat} {a14 : Nat → Nat} {q15 : Nat} {q16 : Nat} {a17 : Nat → Nat} {q18 : Nat} {q19 : Nat} {bS L : Nat} {xs : Nat → Int32} {Q : State → Prop} (T0 : TL E K) (S0 : SX bS L xs K) (HR : ∀ (c s : Nat) (lv : List (Nat × Value)) (gs : List va_W), c ≤ 601024 → s ≤ 7293034 → WW E K c s Q 2236 lv [.int 1] gs) {c s : Nat} (hc : c + 3 ≤ 601024) (hs : s + 18 ≤ 7293034) {k23 : Int32 → GWV → HouseV → HouseV → HistV → (Nat → HouseV) → HouseV → SightV → SightV → BestV → HouseV → SightV → IntrV → ToksV → QReadV → (Nat → Int32) → (Nat → Int32) → ModelV → (Nat → Int64) → Option Unit} (hk23 : ∀ (x4 : Int32) (v0 : GWV) (v1 : HouseV) (v2 : HouseV) (v3 : HistV) (v4 : Nat → HouseV) (v5 : HouseV) (v6 : SightV) (v7 : SightV) (v8 : BestV) (v9 : HouseV) (v10 : SightV) (v11 : IntrV) (v12 : ToksV) (v14 : QReadV) (v15 : Nat → Int32) (v16 : Nat → Int32) (v17 : ModelV) (v19 : Nat → Int64), k23 x4 v0 v1 v2 v3 v4 v5 v6 v7 v8 v9 v10 v11 v12 v14 v15 v16 v17 v19 = some () → WW E K (c + 3) (s + 18) Q 23 [(0, .ref bS), (1, .ref (a0 0)), (2, .ref (a17 0)), (3, .ref q19), (4, .int x4)] [] [wGW E a0 (rf10 (a1 0) (a2 0) (a3 0) (a6 0) (a7 0) (a8 0) (a11 0) (a12 0) (a13 0) (a14 0)) v0, wHouse E a1 v1, wHouse E a2 v2, wHist E a3 (rf2 q4 (a5 0)) v3, wHs E q4 ah4 v4, wHouse E a5 v5, wSight E a6 v6, wSight E a7 v7, wBest E a8 (rf2 (a9 0) (a10 0)) v8, wHouse E a9 v9, wSight E a10 v10, wIntr E a11 v11, wToks E a12 v12, wHRead E a13 (rf1 (a12 0)), wQRead E a14 (rf3 (a12 0) q15 q16) v14, wArr E q15 12 v15, wArr E q16 12 v16, wModel E a17 (rf2 (a17 1) q18) v17, wNm E q18, wLon E q19 v19]) {x4 : Int32} {v0 : GWV} {v1 : HouseV} {v2 : HouseV} {v3 : HistV} {v4 : Nat → HouseV} {v5 : HouseV} {v6 : SightV} {v7 : SightV} {v8 : BestV} {v9 : HouseV} {v10 : SightV} {v11 : IntrV} {v12 : ToksV} {v14 : QReadV} {v15 : Nat → Int32} {v16 : Nat → Int32} {v17 : ModelV} {v19 : Nat → Int64} (hf : Law_2173 L xs k23 x4 v0 v1 v2 v3 v4 v5 v6 v7 v8 v9 v10 v11 v12 v14 v15 v16 v17 v19 = some ()) : WW E K c s Q 2173 [(0, .ref bS), (1, .ref (a0 0)), (2, .ref (a17 0)), (3, .ref q19), (4, .int x4)] [] [wGW E a0 (rf10 (a1 0) (a2 0) (a3 0) (a6 0) (a7 0) (a8 0) (a11 0) (a12 0) (a13 0) (a14 0)) v0, wHouse E a1 v1, wHouse E a2 v2, wHist E a3 (rf2 q4 (a5 0)) v3, wHs E q4 ah4 v4, wHouse E a5 v5, wSight E a6 v6, wSight E a7 v7, wBest E a8 (rf2 (a9 0) (a10 0)) v8, wHouse E a9 v9, wSight E a10 v10, wIntr E a11 v11, wToks E a12 v12, wHRead E a13 (rf1 (a12 0)), wQRead E a14 (rf3 (a12 0) q15 q16) v14, wArr E q15 12 v15, wArr E q16 12 v16, wModel E a17 (rf2 (a17 1) q18) v17, wNm E q18, wLon E q19 v19] := by
  rw [Law_2173] at hf
  refine ww_aload_n C dL_law_2173 rfl 1 rfl ?_
  refine ww_aload_n C dL_law_2174 rfl 0 rfl ?_
  refine ww_iload C dL_law_2175 4 rfl ?_
  refine ww_iconst (v := 1) C dL_law_2177 (by decide) ?_
  refine ww_iadd C dL_law_2178 ?_
  obtain ⟨g_3, hf⟩ := gdE hf
  refine ww_sld C S0 (inB_vp g_3) dL_law_2179 ?_
  refine ww_aload_n C dL_law_2180 rfl 3 rfl ?_
  obtain ⟨p2181, hp2181, hf⟩ := bdE hf
  refine ww_callSL C T0 (As := [.ref (a0 0), .int (xs (Int32.toNatClampNeg (x4 + 1))), .ref q19]) (st := []) (gr := [wHouse E a2 v2, wHist E a3 (rf2 q4 (a5 0)) v3, wHs E q4 ah4 v4, wHouse E a5 v5, wSight E a7 v7, wBest E a8 (rf2 (a9 0) (a10 0)) v8, wHouse E a9 v9, wSight E a10 v10, wIntr E a11 v11, wHRead E a13 (rf1 (a12 0)), wModel E a17 (rf2 (a17 1) q18) v17, wNm E q18]) (c_L_query (E := E) (a0 := a0) (h0_1 := a2 0) (h0_2 := a3 0) (h0_4 := a7 0) (h0_5 := a8 0) (h0_6 := a11 0) (h0_8 := a13 0) (a1 := a1) (a2 := a6) (a3 := a12) (a4 := a14) (q5 := q15) (q6 := q16) (q7 := q19) hp2181) gL_law_L_query rfl ysk_L_query ⟨by decide, by decide⟩ ⟨by show c + 1 ≤ 601024; omega, by show s + 6 ≤ 7293034; omega⟩ [0, 1, 6, 12, 14, 15, 16, 19] [2, 3, 4, 5, 7, 8, 9, 10, 11, 13, 17, 18] 20 rfl (by decide) rfl rfl (Nat.le_of_ble_eq_true rfl) dL_law_2181 ?_
  rintro _ _ ⟨rfl, rfl⟩
  refine ww_perm (gs' := [wGW E a0 (rf10 (a1 0) (a2 0) (a3 0) (a6 0) (a7 0) (a8 0) (a11 0) (a12 0) (a13 0) (a14 0)) p2181.2.1, wHouse E a1 v1, wHouse E a2 v2, wHist E a3 (rf2 q4 (a5 0)) v3, wHs E q4 ah4 v4, wHouse E a5 v5, wSight E a6 p2181.2.2.1, wSight E a7 v7, wBest E a8 (rf2 (a9 0) (a10 0)) v8, wHouse E a9 v9, wSight E a10 v10, wIntr E a11 v11, wToks E a12 p2181.2.2.2.1, wHRead E a13 (rf1 (a12 0)), wQRead E a14 (rf3 (a12 0) q15 q16) p2181.2.2.2.2.1, wArr E q15 12 p2181.2.2.2.2.2.1, wArr E q16 12 p2181.2.2.2.2.2.2.1, wModel E a17 (rf2 (a17 1) q18) v17, wNm E q18, wLon E q19 p2181.2.2.2.2.2.2.2]) [0, 1, 8, 9, 10, 11, 2, 12, 13, 14, 15, 16, 3, 17, 4, 5, 6, 18, 19, 7] 20 rfl (by decide) rfl ?_
  refine ww_istore (lv' := [(5, .int p2181.1), (0, .ref bS), (1, .ref (a0 0)), (2, .ref (a17 0)), (3, .ref q19), (4, .int x4)]) C dL_law_2184 (by decide) rfl ?_
  refine ww_aload_n C dL_law_2186 rfl 3 rfl ?_
  refine ww_aload_n C dL_law_2187 rfl 1 rfl ?_
  refine ww_iload C dL_law_2188 5 rfl ?_
  refine ww_iconst (v := 1) C dL_law_2190 (by decide) ?_
  refine ww_iadd C dL_law_2191 ?_
  refine ww_sld C S0 (inB_vp g_3) dL_law_2192 ?_
  obtain ⟨p2193, hp2193, hf⟩ := bdE hf
  refine ww_callV C (As := [.int (xs (Int32.toNatClampNeg (x4 + 1)))]) (st := []) (gr := [wGW E a0 (rf10 (a1 0) (a2 0) (a3 0) (a6 0) (a7 0) (a8 0) (a11 0) (a12 0) (a13 0) (a14 0)) p2181.2.1, wHouse E a1 v1, wHouse E a2 v2, wHist E a3 (rf2 q4 (a5 0)) v3, wHs E q4 ah4 v4, wHouse E a5 v5, wSight E a6 p2181.2.2.1, wSight E a7 v7, wBest E a8 (rf2 (a9 0) (a10 0)) v8, wHouse E a9 v9, wSight E a10 v10, wIntr E a11 v11, wToks E a12 p2181.2.2.2.1, wHRead E a13 (rf1 (a12 0)), wQRead E a14 (rf3 (a12 0) q15 q16) p2181.2.2.2.2.1, wArr E q15 12 p2181.2.2.2.2.2.1, wArr E q16 12 p2181.2.2.2.2.2.2.1, wLon E q19 p2181.2.2.2.2.2.2.2]) (c_X9_query (E := E) (a0 := a17) (q1 := q18) hp2193) gL_law_X9_query rfl yk_X9_query ⟨by decide, by decide⟩ ⟨by show c + 1 + 0 ≤ 601024; omega, by show s + 6 + 0 ≤ 7293034; omega⟩ clOK9 0 0 rfl rfl [17, 18] [0, 1, 2, 3, 4, 5, 6, 7, 8, 9, 10, 11, 12, 13, 14, 15, 16, 19] 20 rfl (by decide) rfl rfl (Nat.le_of_ble_eq_true rfl) dL_law_2193 ?_
  rintro _ _ ⟨rfl, rfl⟩
  refine ww_perm (gs' := [wGW E a0 (rf10 (a1 0) (a2 0) (a3 0) (a6 0) (a7 0) (a8 0) (a11 0) (a12 0) (a13 0) (a14 0)) p2181.2.1, wHouse E a1 v1, wHouse E a2 v2, wHist E a3 (rf2 q4 (a5 0)) v3, wHs E q4 ah4 v4, wHouse E a5 v5, wSight E a6 p2181.2.2.1, wSight E a7 v7, wBest E a8 (rf2 (a9 0) (a10 0)) v8, wHouse E a9 v9, wSight E a10 v10, wIntr E a11 v11, wToks E a12 p2181.2.2.2.1, wHRead E a13 (rf1 (a12 0)), wQRead E a14 (rf3 (a12 0) q15 q16) p2181.2.2.2.2.1, wArr E q15 12 p2181.2.2.2.2.2.1, wArr E q16 12 p2181.2.2.2.2.2.2.1, wModel E a17 (rf2 (a17 1) q18) p2193.2, wNm E q18, wLon E q19 p2181.2.2.2.2.2.2.2]) [2, 3, 4, 5, 6, 7, 8, 9, 10, 11, 12, 13, 14, 15, 16, 17, 18, 0, 1, 19] 20 rfl (by decide) rfl ?_
  refine ww_istore (lv' := [(6, .int p2193.1), (5, .int p2181.1), (0, .ref bS), (1, .ref (a0 0)), (2, .ref (a17 0)), (3, .ref q19), (4, .int x4)]) C dL_law_2196 (by decide) rfl ?_
  refine ww_aload_n C dL_law_2198 rfl 4 rfl ?_
  obtain ⟨p2199, hp2199, hf⟩ := bdE hf
  refine ww_callV C (As := []) (st := []) (gr := [wGW E a0 (rf10 (a1 0) (a2 0) (a3 0) (a6 0) (a7 0) (a8 0) (a11 0) (a12 0) (a13 0) (a14 0)) p2181.2.1, wHouse E a1 v1, wHouse E a2 v2, wHist E a3 (rf2 q4 (a5 0)) v3, wHs E q4 ah4 v4, wHouse E a5 v5, wSight E a6 p2181.2.2.1, wSight E a7 v7, wBest E a8 (rf2 (a9 0) (a10 0)) v8, wHouse E a9 v9, wSight E a10 v10, wIntr E a11 v11, wToks E a12 p2181.2.2.2.1, wHRead E a13 (rf1 (a12 0)), wQRead E a14 (rf3 (a12 0) q15 q16) p2181.2.2.2.2.1, wArr E q15 12 p2181.2.2.2.2.2.1, wArr E q16 12 p2181.2.2.2.2.2.2.1, wNm E q18, wLon E q19 p2181.2.2.2.2.2.2.2]) (c_X9_thrown (E := E) (a0 := a17) (h0_0 := a17 1) (h0_1 := q18) hp2199) gL_law_X9_thrown rfl yk_X9_thrown ⟨by decide, by decide⟩ ⟨by show c + 1 + 0 + 0 ≤ 601024; omega, by show s + 6 + 0 + 0 ≤ 7293034; omega⟩ clOK9 0 0 rfl rfl [17] [0, 1, 2, 3, 4, 5, 6, 7, 8, 9, 10, 11, 12, 13, 14, 15, 16, 18, 19] 20 rfl (by decide) rfl rfl (Nat.le_of_ble_eq_true rfl) dL_law_2199 ?_
  rintro _ _ ⟨rfl, rfl⟩
  refine ww_perm (gs' := [wGW E a0 (rf10 (a1 0) (a2 0) (a3 0) (a6 0) (a7 0) (a8 0) (a11 0) (a12 0) (a13 0) (a14 0)) p2181.2.1, wHouse E a1 v1, wHouse E a2 v2, wHist E a3 (rf2 q4 (a5 0)) v3, wHs E q4 ah4 v4, wHouse E a5 v5, wSight E a6 p2181.2.2.1, wSight E a7 v7, wBest E a8 (rf2 (a9 0) (a10 0)) v8, wHouse E a9 v9, wSight E a10 v10, wIntr E a11 v11, wToks E a12 p2181.2.2.2.1, wHRead E a13 (rf1 (a12 0)), wQRead E a14 (rf3 (a12 0) q15 q16) p2181.2.2.2.2.1, wArr E q15 12 p2181.2.2.2.2.2.1, wArr E q16 12 p2181.2.2.2.2.2.2.1, wModel E a17 (rf2 (a17 1) q18) p2193.2, wNm E q18, wLon E q19 p2181.2.2.2.2.2.2.2]) [1, 2, 3, 4, 5, 6, 7, 8, 9, 10, 11, 12, 13, 14, 15, 16, 17, 0, 18, 19] 20 rfl (by decide) rfl ?_
  refine ww_iload C dL_law_2202 1 rfl ?_
  refine ww_icmp_eq (tgt := 2209) C dL_law_2204 (by decide) (fun c_4 => ?_) (fun c_4 => ?_)
  · replace hf := ifT c_4 hf
    refine ww_iload C dL_law_2209 1 rfl ?_
    refine ww_if_ne (tgt := 2226) C dL_law_2211 (by decide) (fun c_5 => ?_) (fun c_5 => ?_)
    · replace hf := ifF c_5 hf
      refine ww_goto (tgt := 2229) C dL_law_2226 (by decide) ?_
      obtain ⟨x4_2229, e_x4_2229⟩ : ∃ y : Int32, y = x4 + 6 := ⟨_, rfl⟩
      replace hf := ltE e_x4_2229 hf
      refine ww_iinc (v := x4_2229) (lv' := [(4, .int x4_2229), (6, .int p2193.1), (5, .int p2181.1), (0, .ref bS), (1, .ref (a0 0)), (2, .ref (a17 0)), (3, .ref q19)]) C dL_law_2229 6 rfl (by rw [e_x4_2229]; rfl) (by decide) rfl ?_
      refine ww_goto (tgt := 23) C dL_law_2232 (by decide) ?_
      refine ww_sub C (lv' := [(0, .ref bS), (1, .ref (a0 0)), (2, .ref (a17 0)), (3, .ref q19), (4, .int x4_2229)]) [3, 4, 5, 6, 0] rfl ?_
      refine ww_widen (k := c + 3) (n := s + 18) (by show c + 1 + 0 + 0 ≤ c + 3; omega) (by show s + 6 + 0 + 0 ≤ s + 18; omega) ?_
      exact hk23 _ _ _ _ _ _ _ _ _ _ _ _ _ _ _ _ _ _ _ hf
    · replace hf := ifT c_5 hf
      refine ww_aload_n C dL_law_2214 rfl 5 rfl ?_
      refine ww_iconst (v := 0) C dL_law_2215 (by decide) ?_
      obtain ⟨g_6, hf⟩ := gdE hf
      refine ww_lald C (f := p2181.2.2.2.2.2.2.2) (w := wLon E q19 p2181.2.2.2.2.2.2.2) 19 0 rfl q_Lon (inB_vp g_6) dL_law_2216 ?_
      refine ww_iload C dL_law_2217 0 rfl ?_
      refine ww_i2l C dL_law_2219 ?_
      refine ww_lcmp C dL_law_2220 ?_
      refine ww_if_eq (tgt := 2226) C dL_law_2221 (by decide) (fun c_7 => ?_) (fun c_7 => ?_)
      · replace hf := ifT c_7 hf
        refine ww_goto (tgt := 2229) C dL_law_2226 (by decide) ?_
        obtain ⟨x4_2229, e_x4_2229⟩ : ∃ y : Int32, y = x4 + 6 := ⟨_, rfl⟩
        replace hf := ltE e_x4_2229 hf
        refine ww_iinc (v := x4_2229) (lv' := [(4, .int x4_2229), (6, .int p2193.1), (5, .int p2181.1), (0, .ref bS), (1, .ref (a0 0)), (2, .ref (a17 0)), (3, .ref q19)]) C dL_law_2229 6 rfl (by rw [e_x4_2229]; rfl) (by decide) rfl ?_
        refine ww_goto (tgt := 23) C dL_law_2232 (by decide) ?_
        refine ww_sub C (lv' := [(0, .ref bS), (1, .ref (a0 0)), (2, .ref (a17 0)), (3, .ref q19), (4, .int x4_2229)]) [3, 4, 5, 6, 0] rfl ?_
        refine ww_widen (k := c + 3) (n := s + 18) (by show c + 1 + 0 + 0 ≤ c + 3; omega) (by show s + 6 + 0 + 0 ≤ s + 18; omega) ?_
        exact hk23 _ _ _ _ _ _ _ _ _ _ _ _ _ _ _ _ _ _ _ hf
      · replace hf := ifF c_7 hf
        refine ww_iconst (v := 0) C dL_law_2224 (by decide) ?_
        cases hf
  · replace hf := ifF c_4 hf
    refine ww_iconst (v := 0) C dL_law_2207 (by decide) ?_
    cases hf

