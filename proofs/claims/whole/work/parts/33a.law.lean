abbrev rmL_law : Room := { frames := 2048, cells := 601024, slots := 7293034, locals := 84000 }
set_option maxHeartbeats 8000000 in
set_option maxRecDepth 100000 in
theorem w_L_law_216 {E : Ex} {K : Kx} (C : Cx E K cL_law 9 (some .boolean) RL wsL_law rmL_law) {a0 : Nat → Nat} {a1 : Nat → Nat} {a2 : Nat → Nat} {a3 : Nat → Nat} {q4 : Nat} {ah4 : Nat → Nat → Nat} {a5 : Nat → Nat} {a6 : Nat → Nat} {a7 : Nat → Nat} {a8 : Nat → Nat} {a9 : Nat → Nat} {a10 : Nat → Nat} {a11 : Nat → Nat} {a12 : Nat → Nat} {a13 : Nat → Nat} {a14 : Nat → Nat} {q15 : Nat} {q16 : Nat} {a17 : Nat → Nat} {q18 : Nat} {q19 : Nat} {bS L : Nat} {xs : Nat → Int32} {Q : State → Prop} (T0 : TL E K) (S0 : SX bS L xs K) (HR : ∀ (c s : Nat) (lv : List (Nat × Value)) (gs : List va_W), c ≤ 601024 → s ≤ 7293034 → WW E K c s Q 2236 lv [.int 1] gs) {c s : Nat} (hc : c + 3 ≤ 601024) (hs : s + 18 ≤ 7293034) {k23 : Int32 → GWV → HouseV → HouseV → HistV → (Nat → HouseV) → HouseV → SightV → SightV → BestV → HouseV → SightV → IntrV → ToksV → QReadV → (Nat → Int32) → (Nat → Int32) → ModelV → (Nat → Int64) → Option Unit} (hk23 : ∀ (x4 : Int32) (v0 : GWV) (v1 : HouseV) (v2 : HouseV) (v3 : HistV) (v4 : Nat → HouseV) (v5 : HouseV) (v6 : SightV) (v7 : SightV) (v8 : BestV) (v9 : HouseV) (v10 : SightV) (v11 : IntrV) (v12 : ToksV) (v14 : QReadV) (v15 : Nat → Int32) (v16 : Nat → Int32) (v17 : ModelV) (v19 : Nat → Int64), k23 x4 v0 v1 v2 v3 v4 v5 v6 v7 v8 v9 v10 v11 v12 v14 v15 v16 v17 v19 = some () → WW E K (c + 3) (s + 18) Q 23 [(0, .ref bS), (1, .ref (a0 0)), (2, .ref (a17 0)), (3, .ref q19), (4, .int x4)] [] [wGW E a0 (rf10 (a1 0) (a2 0) (a3 0) (a6 0) (a7 0) (a8 0) (a11 0) (a12 0) (a13 0) (a14 0)) v0, wHouse E a1 v1, wHouse E a2 v2, wHist E a3 (rf2 q4 (a5 0)) v3, wHs E q4 ah4 v4, wHouse E a5 v5, wSight E a6 v6, wSight E a7 v7, wBest E a8 (rf2 (a9 0) (a10 0)) v8, wHouse E a9 v9, wSight E a10 v10, wIntr E a11 v11, wToks E a12 v12, wHRead E a13 (rf1 (a12 0)), wQRead E a14 (rf3 (a12 0) q15 q16) v14, wArr E q15 12 v15, wArr E q16 12 v16, wModel E a17 (rf2 (a17 1) q18) v17, wNm E q18, wLon E q19 v19]) {x4 : Int32} {v0 : GWV} {v1 : HouseV} {v2 : HouseV} {v3 : HistV} {v4 : Nat → HouseV} {v5 : HouseV} {v6 : SightV} {v7 : SightV} {v8 : BestV} {v9 : HouseV} {v10 : SightV} {v11 : IntrV} {v12 : ToksV} {v14 : QReadV} {v15 : Nat → Int32} {v16 : Nat → Int32} {v17 : ModelV} {v19 : Nat → Int64} (hf : Law_216 L xs k23 x4 v0 v1 v2 v3 v4 v5 v6 v7 v8 v9 v10 v11 v12 v14 v15 v16 v17 v19 = some ()) : WW E K c s Q 216 [(0, .ref bS), (1, .ref (a0 0)), (2, .ref (a17 0)), (3, .ref q19), (4, .int x4)] [] [wGW E a0 (rf10 (a1 0) (a2 0) (a3 0) (a6 0) (a7 0) (a8 0) (a11 0) (a12 0) (a13 0) (a14 0)) v0, wHouse E a1 v1, wHouse E a2 v2, wHist E a3 (rf2 q4 (a5 0)) v3, wHs E q4 ah4 v4, wHouse E a5 v5, wSight E a6 v6, wSight E a7 v7, wBest E a8 (rf2 (a9 0) (a10 0)) v8, wHouse E a9 v9, wSight E a10 v10, wIntr E a11 v11, wToks E a12 v12, wHRead E a13 (rf1 (a12 0)), wQRead E a14 (rf3 (a12 0) q15 q16) v14, wArr E q15 12 v15, wArr E q16 12 v16, wModel E a17 (rf2 (a17 1) q18) v17, wNm E q18, wLon E q19 v19] := by
  rw [Law_216] at hf
  refine ww_aload_n C dL_law_216 rfl 1 rfl ?_
  refine ww_aload_n C dL_law_217 rfl 0 rfl ?_
  refine ww_iload C dL_law_218 4 rfl ?_
  refine ww_iconst (v := 1) C dL_law_220 (by decide) ?_
  refine ww_iadd C dL_law_221 ?_
  obtain ⟨g_175, hf⟩ := gdE hf
  refine ww_sld C S0 (inB_vp g_175) dL_law_222 ?_
  refine ww_aload_n C dL_law_223 rfl 0 rfl ?_
  refine ww_iload C dL_law_224 4 rfl ?_
  refine ww_iconst (v := 2) C dL_law_226 (by decide) ?_
  refine ww_iadd C dL_law_227 ?_
  obtain ⟨g_176, hf⟩ := gdE hf
  refine ww_sld C S0 (inB_vp g_176) dL_law_228 ?_
  refine ww_aload_n C dL_law_229 rfl 0 rfl ?_
  refine ww_iload C dL_law_230 4 rfl ?_
  refine ww_iconst (v := 3) C dL_law_232 (by decide) ?_
  refine ww_iadd C dL_law_233 ?_
  obtain ⟨g_177, hf⟩ := gdE hf
  refine ww_sld C S0 (inB_vp g_177) dL_law_234 ?_
  refine ww_aload_n C dL_law_235 rfl 0 rfl ?_
  refine ww_iload C dL_law_236 4 rfl ?_
  refine ww_iconst (v := 4) C dL_law_238 (by decide) ?_
  refine ww_iadd C dL_law_239 ?_
  obtain ⟨g_178, hf⟩ := gdE hf
  refine ww_sld C S0 (inB_vp g_178) dL_law_240 ?_
  refine ww_aload_n C dL_law_241 rfl 0 rfl ?_
  refine ww_iload C dL_law_242 4 rfl ?_
  refine ww_iconst (v := 5) C dL_law_244 (by decide) ?_
  refine ww_iadd C dL_law_245 ?_
  obtain ⟨g_179, hf⟩ := gdE hf
  refine ww_sld C S0 (inB_vp g_179) dL_law_246 ?_
  obtain ⟨p247, hp247, hf⟩ := bdE hf
  refine ww_callV C (As := [.int (xs (Int32.toNatClampNeg (x4 + 1))), .int (xs (Int32.toNatClampNeg (x4 + 2))), .int (xs (Int32.toNatClampNeg (x4 + 3))), .int (xs (Int32.toNatClampNeg (x4 + 4))), .int (xs (Int32.toNatClampNeg (x4 + 5)))]) (st := []) (gr := [wHouse E a1 v1, wHouse E a2 v2, wHist E a3 (rf2 q4 (a5 0)) v3, wHs E q4 ah4 v4, wHouse E a5 v5, wSight E a6 v6, wSight E a7 v7, wBest E a8 (rf2 (a9 0) (a10 0)) v8, wHouse E a9 v9, wSight E a10 v10, wIntr E a11 v11, wHRead E a13 (rf1 (a12 0)), wQRead E a14 (rf3 (a12 0) q15 q16) v14, wArr E q15 12 v15, wArr E q16 12 v16, wModel E a17 (rf2 (a17 1) q18) v17, wNm E q18, wLon E q19 v19]) (c_X8_feed (E := E) (a0 := a0) (h0_0 := a1 0) (h0_1 := a2 0) (h0_2 := a3 0) (h0_3 := a6 0) (h0_4 := a7 0) (h0_5 := a8 0) (h0_6 := a11 0) (h0_8 := a13 0) (h0_9 := a14 0) (a1 := a12) hp247) gL_law_X8_feed rfl yk_X8_feed ⟨by decide, by decide⟩ ⟨by show c + 0 ≤ 601024; omega, by show s + 0 ≤ 7293034; omega⟩ clOK8 0 0 rfl rfl [0, 12] [1, 2, 3, 4, 5, 6, 7, 8, 9, 10, 11, 13, 14, 15, 16, 17, 18, 19] 20 rfl (by decide) rfl rfl (Nat.le_of_ble_eq_true rfl) dL_law_247 ?_
  rintro _ _ ⟨rfl, rfl⟩
  refine ww_perm (gs' := [wGW E a0 (rf10 (a1 0) (a2 0) (a3 0) (a6 0) (a7 0) (a8 0) (a11 0) (a12 0) (a13 0) (a14 0)) v0, wHouse E a1 v1, wHouse E a2 v2, wHist E a3 (rf2 q4 (a5 0)) v3, wHs E q4 ah4 v4, wHouse E a5 v5, wSight E a6 v6, wSight E a7 v7, wBest E a8 (rf2 (a9 0) (a10 0)) v8, wHouse E a9 v9, wSight E a10 v10, wIntr E a11 v11, wToks E a12 p247.2, wHRead E a13 (rf1 (a12 0)), wQRead E a14 (rf3 (a12 0) q15 q16) v14, wArr E q15 12 v15, wArr E q16 12 v16, wModel E a17 (rf2 (a17 1) q18) v17, wNm E q18, wLon E q19 v19]) [0, 2, 3, 4, 5, 6, 7, 8, 9, 10, 11, 12, 1, 13, 14, 15, 16, 17, 18, 19] 20 rfl (by decide) rfl ?_
  refine ww_aload_n C dL_law_250 rfl 2 rfl ?_
  refine ww_aload_n C dL_law_251 rfl 0 rfl ?_
  refine ww_iload C dL_law_252 4 rfl ?_
  refine ww_iconst (v := 1) C dL_law_254 (by decide) ?_
  refine ww_iadd C dL_law_255 ?_
  refine ww_sld C S0 (inB_vp g_175) dL_law_256 ?_
  refine ww_aload_n C dL_law_257 rfl 0 rfl ?_
  refine ww_iload C dL_law_258 4 rfl ?_
  refine ww_iconst (v := 2) C dL_law_260 (by decide) ?_
  refine ww_iadd C dL_law_261 ?_
  refine ww_sld C S0 (inB_vp g_176) dL_law_262 ?_
  refine ww_aload_n C dL_law_263 rfl 0 rfl ?_
  refine ww_iload C dL_law_264 4 rfl ?_
  refine ww_iconst (v := 3) C dL_law_266 (by decide) ?_
  refine ww_iadd C dL_law_267 ?_
  refine ww_sld C S0 (inB_vp g_177) dL_law_268 ?_
  refine ww_aload_n C dL_law_269 rfl 0 rfl ?_
  refine ww_iload C dL_law_270 4 rfl ?_
  refine ww_iconst (v := 4) C dL_law_272 (by decide) ?_
  refine ww_iadd C dL_law_273 ?_
  refine ww_sld C S0 (inB_vp g_178) dL_law_274 ?_
  refine ww_aload_n C dL_law_275 rfl 0 rfl ?_
  refine ww_iload C dL_law_276 4 rfl ?_
  refine ww_iconst (v := 5) C dL_law_278 (by decide) ?_
  refine ww_iadd C dL_law_279 ?_
  refine ww_sld C S0 (inB_vp g_179) dL_law_280 ?_
  obtain ⟨p281, hp281, hf⟩ := bdE hf
  refine ww_callV C (As := [.int (xs (Int32.toNatClampNeg (x4 + 1))), .int (xs (Int32.toNatClampNeg (x4 + 2))), .int (xs (Int32.toNatClampNeg (x4 + 3))), .int (xs (Int32.toNatClampNeg (x4 + 4))), .int (xs (Int32.toNatClampNeg (x4 + 5)))]) (st := [.int p247.1]) (gr := [wGW E a0 (rf10 (a1 0) (a2 0) (a3 0) (a6 0) (a7 0) (a8 0) (a11 0) (a12 0) (a13 0) (a14 0)) v0, wHouse E a1 v1, wHouse E a2 v2, wHist E a3 (rf2 q4 (a5 0)) v3, wHs E q4 ah4 v4, wHouse E a5 v5, wSight E a6 v6, wSight E a7 v7, wBest E a8 (rf2 (a9 0) (a10 0)) v8, wHouse E a9 v9, wSight E a10 v10, wIntr E a11 v11, wToks E a12 p247.2, wHRead E a13 (rf1 (a12 0)), wQRead E a14 (rf3 (a12 0) q15 q16) v14, wArr E q15 12 v15, wArr E q16 12 v16, wNm E q18, wLon E q19 v19]) (c_X9_feed (E := E) (a0 := a17) (h0_0 := a17 1) (h0_1 := q18) hp281) gL_law_X9_feed rfl yk_X9_feed ⟨by decide, by decide⟩ ⟨by show c + 0 + 0 ≤ 601024; omega, by show s + 0 + 0 ≤ 7293034; omega⟩ clOK9 0 0 rfl rfl [17] [0, 1, 2, 3, 4, 5, 6, 7, 8, 9, 10, 11, 12, 13, 14, 15, 16, 18, 19] 20 rfl (by decide) rfl rfl (Nat.le_of_ble_eq_true rfl) dL_law_281 ?_
  rintro _ _ ⟨rfl, rfl⟩
  refine ww_perm (gs' := [wGW E a0 (rf10 (a1 0) (a2 0) (a3 0) (a6 0) (a7 0) (a8 0) (a11 0) (a12 0) (a13 0) (a14 0)) v0, wHouse E a1 v1, wHouse E a2 v2, wHist E a3 (rf2 q4 (a5 0)) v3, wHs E q4 ah4 v4, wHouse E a5 v5, wSight E a6 v6, wSight E a7 v7, wBest E a8 (rf2 (a9 0) (a10 0)) v8, wHouse E a9 v9, wSight E a10 v10, wIntr E a11 v11, wToks E a12 p247.2, wHRead E a13 (rf1 (a12 0)), wQRead E a14 (rf3 (a12 0) q15 q16) v14, wArr E q15 12 v15, wArr E q16 12 v16, wModel E a17 (rf2 (a17 1) q18) p281.2, wNm E q18, wLon E q19 v19]) [1, 2, 3, 4, 5, 6, 7, 8, 9, 10, 11, 12, 13, 14, 15, 16, 17, 0, 18, 19] 20 rfl (by decide) rfl ?_
  refine ww_icmp_eq (tgt := 2229) C dL_law_284 (by decide) (fun c_180 => ?_) (fun c_180 => ?_)
  · replace hf := ifT c_180 hf
    obtain ⟨x4_2229, e_x4_2229⟩ : ∃ y : Int32, y = x4 + 6 := ⟨_, rfl⟩
    replace hf := ltE e_x4_2229 hf
    refine ww_iinc (v := x4_2229) (lv' := [(4, .int x4_2229), (0, .ref bS), (1, .ref (a0 0)), (2, .ref (a17 0)), (3, .ref q19)]) C dL_law_2229 4 rfl (by rw [e_x4_2229]; rfl) (by decide) rfl ?_
    refine ww_goto (tgt := 23) C dL_law_2232 (by decide) ?_
    refine ww_sub C (lv' := [(0, .ref bS), (1, .ref (a0 0)), (2, .ref (a17 0)), (3, .ref q19), (4, .int x4_2229)]) [1, 2, 3, 4, 0] rfl ?_
    refine ww_widen (k := c + 3) (n := s + 18) (by show c + 0 + 0 ≤ c + 3; omega) (by show s + 0 + 0 ≤ s + 18; omega) ?_
    exact hk23 _ _ _ _ _ _ _ _ _ _ _ _ _ _ _ _ _ _ _ hf
  · replace hf := ifF c_180 hf
    refine ww_iconst (v := 0) C dL_law_287 (by decide) ?_
    cases hf

set_option maxHeartbeats 8000000 in
set_option maxRecDepth 100000 in
theorem w_L_law_289 {E : Ex} {K : Kx} (C : Cx E K cL_law 9 (some .boolean) RL wsL_law rmL_law) {a0 : Nat → Nat} {a1 : Nat → Nat} {a2 : Nat → Nat} {a3 : Nat → Nat} {q4 : Nat} {ah4 : Nat → Nat → Nat} {a5 : Nat → Nat} {a6 : Nat → Nat} {a7 : Nat → Nat} {a8 : Nat → Nat} {a9 : Nat → Nat} {a10 : Nat → Nat} {a11 : Nat → Nat} {a12 : Nat → Nat} {a13 : Nat → Nat} {a14 : Nat → Nat} {q15 : Nat} {q16 : Nat} {a17 : Nat → Nat} {q18 : Nat} {q19 : Nat} {bS L : Nat} {xs : Nat → Int32} {Q : State → Prop} (T0 : TL E K) (S0 : SX bS L xs K) (HR : ∀ (c s : Nat) (lv : List (Nat × Value)) (gs : List va_W), c ≤ 601024 → s ≤ 7293034 → WW E K c s Q 2236 lv [.int 1] gs) {c s : Nat} (hc : c + 3 ≤ 601024) (hs : s + 18 ≤ 7293034) {k23 : Int32 → GWV → HouseV → HouseV → HistV → (Nat → HouseV) → HouseV → SightV → SightV → BestV → HouseV → SightV → IntrV → ToksV → QReadV → (Nat → Int32) → (Nat → Int32) → ModelV → (Nat → Int64) → Option Unit} (hk23 : ∀ (x4 : Int32) (v0 : GWV) (v1 : HouseV) (v2 : HouseV) (v3 : HistV) (v4 : Nat → HouseV) (v5 : HouseV) (v6 : SightV) (v7 : SightV) (v8 : BestV) (v9 : HouseV) (v10 : SightV) (v11 : IntrV) (v12 : ToksV) (v14 : QReadV) (v15 : Nat → Int32) (v16 : Nat → Int32) (v17 : ModelV) (v19 : Nat → Int64), k23 x4 v0 v1 v2 v3 v4 v5 v6 v7 v8 v9 v10 v11 v12 v14 v15 v16 v17 v19 = some () → WW E K (c + 3) (s + 18) Q 23 [(0, .ref bS), (1, .ref (a0 0)), (2, .ref (a17 0)), (3, .ref q19), (4, .int x4)] [] [wGW E a0 (rf10 (a1 0) (a2 0) (a3 0) (a6 0) (a7 0) (a8 0) (a11 0) (a12 0) (a13 0) (a14 0)) v0, wHouse E a1 v1, wHouse E a2 v2, wHist E a3 (rf2 q4 (a5 0)) v3, wHs E q4 ah4 v4, wHouse E a5 v5, wSight E a6 v6, wSight E a7 v7, wBest E a8 (rf2 (a9 0) (a10 0)) v8, wHouse E a9 v9, wSight E a10 v10, wIntr E a11 v11, wToks E a12 v12, wHRead E a13 (rf1 (a12 0)), wQRead E a14 (rf3 (a12 0) q15 q16) v14, wArr E q15 12 v15, wArr E q16 12 v16, wModel E a17 (rf2 (a17 1) q18) v17, wNm E q18, wLon E q19 v19]) {x4 : Int32} {v0 : GWV} {v1 : HouseV} {v2 : HouseV} {v3 : HistV} {v4 : Nat → HouseV} {v5 : HouseV} {v6 : SightV} {v7 : SightV} {v8 : BestV} {v9 : HouseV} {v10 : SightV} {v11 : IntrV} {v12 : ToksV} {v14 : QReadV} {v15 : Nat → Int32} {v16 : Nat → Int32} {v17 : ModelV} {v19 : Nat → Int64} (hf : Law_289 L xs k23 x4 v0 v1 v2 v3 v4 v5 v6 v7 v8 v9 v10 v11 v12 v14 v15 v16 v17 v19 = some ()) : WW E K c s Q 289 [(0, .ref bS), (1, .ref (a0 0)), (2, .ref (a17 0)), (3, .ref q19), (4, .int x4)] [] [wGW E a0 (rf10 (a1 0) (a2 0) (a3 0) (a6 0) (a7 0) (a8 0) (a11 0) (a12 0) (a13 0) (a14 0)) v0, wHouse E a1 v1, wHouse E a2 v2, wHist E a3 (rf2 q4 (a5 0)) v3, wHs E q4 ah4 v4, wHouse E a5 v5, wSight E a6 v6, wSight E a7 v7, wBest E a8 (rf2 (a9 0) (a10 0)) v8, wHouse E a9 v9, wSight E a10 v10, wIntr E a11 v11, wToks E a12 v12, wHRead E a13 (rf1 (a12 0)), wQRead E a14 (rf3 (a12 0) q15 q16) v14, wArr E q15 12 v15, wArr E q16 12 v16, wModel E a17 (rf2 (a17 1) q18) v17, wNm E q18, wLon E q19 v19] := by
  rw [Law_289] at hf
  refine ww_aload_n C dL_law_289 rfl 1 rfl ?_
  refine ww_aload_n C dL_law_290 rfl 0 rfl ?_
  refine ww_iload C dL_law_291 4 rfl ?_
  refine ww_iconst (v := 1) C dL_law_293 (by decide) ?_
  refine ww_iadd C dL_law_294 ?_
  obtain ⟨g_170, hf⟩ := gdE hf
  refine ww_sld C S0 (inB_vp g_170) dL_law_295 ?_
  refine ww_aload_n C dL_law_296 rfl 3 rfl ?_
  obtain ⟨p297, hp297, hf⟩ := bdE hf
  refine ww_callSL C T0 (As := [.ref (a0 0), .int (xs (Int32.toNatClampNeg (x4 + 1))), .ref q19]) (st := []) (gr := [wHs E q4 ah4 v4, wHouse E a5 v5, wSight E a6 v6, wSight E a7 v7, wBest E a8 (rf2 (a9 0) (a10 0)) v8, wHouse E a9 v9, wSight E a10 v10, wIntr E a11 v11, wQRead E a14 (rf3 (a12 0) q15 q16) v14, wArr E q15 12 v15, wArr E q16 12 v16, wModel E a17 (rf2 (a17 1) q18) v17, wNm E q18]) (c_L_load (E := E) (a0 := a0) (h0_3 := a6 0) (h0_4 := a7 0) (h0_5 := a8 0) (h0_6 := a11 0) (h0_9 := a14 0) (a1 := a1) (a2 := a2) (a3 := a3) (h3_0 := q4) (h3_1 := a5 0) (a4 := a12) (a5 := a13) (q6 := q19) hp297) gL_law_L_load rfl ysk_L_load ⟨by decide, by decide⟩ ⟨by show c + 1 ≤ 601024; omega, by show s + 6 ≤ 7293034; omega⟩ [0, 1, 2, 3, 12, 13, 19] [4, 5, 6, 7, 8, 9, 10, 11, 14, 15, 16, 17, 18] 20 rfl (by decide) rfl rfl (Nat.le_of_ble_eq_true rfl) dL_law_297 ?_
  rintro _ _ ⟨rfl, rfl⟩
  refine ww_perm (gs' := [wGW E a0 (rf10 (a1 0) (a2 0) (a3 0) (a6 0) (a7 0) (a8 0) (a11 0) (a12 0) (a13 0) (a14 0)) p297.2.1, wHouse E a1 p297.2.2.1, wHouse E a2 p297.2.2.2.1, wHist E a3 (rf2 q4 (a5 0)) p297.2.2.2.2.1, wHs E q4 ah4 v4, wHouse E a5 v5, wSight E a6 v6, wSight E a7 v7, wBest E a8 (rf2 (a9 0) (a10 0)) v8, wHouse E a9 v9, wSight E a10 v10, wIntr E a11 v11, wToks E a12 p297.2.2.2.2.2.1, wHRead E a13 (rf1 (a12 0)), wQRead E a14 (rf3 (a12 0) q15 q16) v14, wArr E q15 12 v15, wArr E q16 12 v16, wModel E a17 (rf2 (a17 1) q18) v17, wNm E q18, wLon E q19 p297.2.2.2.2.2.2]) [0, 1, 2, 3, 7, 8, 9, 10, 11, 12, 13, 14, 4, 5, 15, 16, 17, 18, 19, 6] 20 rfl (by decide) rfl ?_
  refine ww_istore (lv' := [(5, .int p297.1), (0, .ref bS), (1, .ref (a0 0)), (2, .ref (a17 0)), (3, .ref q19), (4, .int x4)]) C dL_law_300 (by decide) rfl ?_
  refine ww_aload_n C dL_law_302 rfl 3 rfl ?_
  refine ww_aload_n C dL_law_303 rfl 1 rfl ?_
  refine ww_iload C dL_law_304 5 rfl ?_
  refine ww_iconst (v := 1) C dL_law_306 (by decide) ?_
  refine ww_iadd C dL_law_307 ?_
  refine ww_sld C S0 (inB_vp g_170) dL_law_308 ?_
  obtain ⟨p309, hp309, hf⟩ := bdE hf
  refine ww_callV C (As := [.int (xs (Int32.toNatClampNeg (x4 + 1)))]) (st := []) (gr := [wGW E a0 (rf10 (a1 0) (a2 0) (a3 0) (a6 0) (a7 0) (a8 0) (a11 0) (a12 0) (a13 0) (a14 0)) p297.2.1, wHouse E a1 p297.2.2.1, wHouse E a2 p297.2.2.2.1, wHist E a3 (rf2 q4 (a5 0)) p297.2.2.2.2.1, wHs E q4 ah4 v4, wHouse E a5 v5, wSight E a6 v6, wSight E a7 v7, wBest E a8 (rf2 (a9 0) (a10 0)) v8, wHouse E a9 v9, wSight E a10 v10, wIntr E a11 v11, wToks E a12 p297.2.2.2.2.2.1, wHRead E a13 (rf1 (a12 0)), wQRead E a14 (rf3 (a12 0) q15 q16) v14, wArr E q15 12 v15, wArr E q16 12 v16, wNm E q18, wLon E q19 p297.2.2.2.2.2.2]) (c_X9_load (E := E) (a0 := a17) (h0_1 := q18) hp309) gL_law_X9_load rfl yk_X9_load ⟨by decide, by decide⟩ ⟨by show c + 1 + 0 ≤ 601024; omega, by show s + 6 + 0 ≤ 7293034; omega⟩ clOK9 0 0 rfl rfl [17] [0, 1, 2, 3, 4, 5, 6, 7, 8, 9, 10, 11, 12, 13, 14, 15, 16, 18, 19] 20 rfl (by decide) rfl rfl (Nat.le_of_ble_eq_true rfl) dL_law_309 ?_
  rintro _ _ ⟨rfl, rfl⟩
  refine ww_perm (gs' := [wGW E a0 (rf10 (a1 0) (a2 0) (a3 0) (a6 0) (a7 0) (a8 0) (a11 0) (a12 0) (a13 0) (a14 0)) p297.2.1, wHouse E a1 p297.2.2.1, wHouse E a2 p297.2.2.2.1, wHist E a3 (rf2 q4 (a5 0)) p297.2.2.2.2.1, wHs E q4 ah4 v4, wHouse E a5 v5, wSight E a6 v6, wSight E a7 v7, wBest E a8 (rf2 (a9 0) (a10 0)) v8, wHouse E a9 v9, wSight E a10 v10, wIntr E a11 v11, wToks E a12 p297.2.2.2.2.2.1, wHRead E a13 (rf1 (a12 0)), wQRead E a14 (rf3 (a12 0) q15 q16) v14, wArr E q15 12 v15, wArr E q16 12 v16, wModel E a17 (rf2 (a17 1) q18) p309.2, wNm E q18, wLon E q19 p297.2.2.2.2.2.2]) [1, 2, 3, 4, 5, 6, 7, 8, 9, 10, 11, 12, 13, 14, 15, 16, 17, 0, 18, 19] 20 rfl (by decide) rfl ?_
  refine ww_istore (lv' := [(6, .int p309.1), (5, .int p297.1), (0, .ref bS), (1, .ref (a0 0)), (2, .ref (a17 0)), (3, .ref q19), (4, .int x4)]) C dL_law_312 (by decide) rfl ?_
  refine ww_aload_n C dL_law_314 rfl 4 rfl ?_
  obtain ⟨p315, hp315, hf⟩ := bdE hf
  refine ww_callV C (As := []) (st := []) (gr := [wGW E a0 (rf10 (a1 0) (a2 0) (a3 0) (a6 0) (a7 0) (a8 0) (a11 0) (a12 0) (a13 0) (a14 0)) p297.2.1, wHouse E a1 p297.2.2.1, wHouse E a2 p297.2.2.2.1, wHist E a3 (rf2 q4 (a5 0)) p297.2.2.2.2.1, wHs E q4 ah4 v4, wHouse E a5 v5, wSight E a6 v6, wSight E a7 v7, wBest E a8 (rf2 (a9 0) (a10 0)) v8, wHouse E a9 v9, wSight E a10 v10, wIntr E a11 v11, wToks E a12 p297.2.2.2.2.2.1, wHRead E a13 (rf1 (a12 0)), wQRead E a14 (rf3 (a12 0) q15 q16) v14, wArr E q15 12 v15, wArr E q16 12 v16, wNm E q18, wLon E q19 p297.2.2.2.2.2.2]) (c_X9_thrown (E := E) (a0 := a17) (h0_0 := a17 1) (h0_1 := q18) hp315) gL_law_X9_thrown rfl yk_X9_thrown ⟨by decide, by decide⟩ ⟨by show c + 1 + 0 + 0 ≤ 601024; omega, by show s + 6 + 0 + 0 ≤ 7293034; omega⟩ clOK9 0 0 rfl rfl [17] [0, 1, 2, 3, 4, 5, 6, 7, 8, 9, 10, 11, 12, 13, 14, 15, 16, 18, 19] 20 rfl (by decide) rfl rfl (Nat.le_of_ble_eq_true rfl) dL_law_315 ?_
  rintro _ _ ⟨rfl, rfl⟩
  refine ww_perm (gs' := [wGW E a0 (rf10 (a1 0) (a2 0) (a3 0) (a6 0) (a7 0) (a8 0) (a11 0) (a12 0) (a13 0) (a14 0)) p297.2.1, wHouse E a1 p297.2.2.1, wHouse E a2 p297.2.2.2.1, wHist E a3 (rf2 q4 (a5 0)) p297.2.2.2.2.1, wHs E q4 ah4 v4, wHouse E a5 v5, wSight E a6 v6, wSight E a7 v7, wBest E a8 (rf2 (a9 0) (a10 0)) v8, wHouse E a9 v9, wSight E a10 v10, wIntr E a11 v11, wToks E a12 p297.2.2.2.2.2.1, wHRead E a13 (rf1 (a12 0)), wQRead E a14 (rf3 (a12 0) q15 q16) v14, wArr E q15 12 v15, wArr E q16 12 v16, wModel E a17 (rf2 (a17 1) q18) p309.2, wNm E q18, wLon E q19 p297.2.2.2.2.2.2]) [1, 2, 3, 4, 5, 6, 7, 8, 9, 10, 11, 12, 13, 14, 15, 16, 17, 0, 18, 19] 20 rfl (by decide) rfl ?_
  refine ww_iload C dL_law_318 1 rfl ?_
  refine ww_icmp_eq (tgt := 325) C dL_law_320 (by decide) (fun c_171 => ?_) (fun c_171 => ?_)
  · replace hf := ifT c_171 hf
    refine ww_iload C dL_law_325 1 rfl ?_
    refine ww_if_ne (tgt := 342) C dL_law_327 (by decide) (fun c_172 => ?_) (fun c_172 => ?_)
    · replace hf := ifF c_172 hf
      refine ww_goto (tgt := 2229) C dL_law_342 (by decide) ?_
      obtain ⟨x4_2229, e_x4_2229⟩ : ∃ y : Int32, y = x4 + 6 := ⟨_, rfl⟩
      replace hf := ltE e_x4_2229 hf
      refine ww_iinc (v := x4_2229) (lv' := [(4, .int x4_2229), (6, .int p309.1), (5, .int p297.1), (0, .ref bS), (1, .ref (a0 0)), (2, .ref (a17 0)), (3, .ref q19)]) C dL_law_2229 6 rfl (by rw [e_x4_2229]; rfl) (by decide) rfl ?_
      refine ww_goto (tgt := 23) C dL_law_2232 (by decide) ?_
      refine ww_sub C (lv' := [(0, .ref bS), (1, .ref (a0 0)), (2, .ref (a17 0)), (3, .ref q19), (4, .int x4_2229)]) [3, 4, 5, 6, 0] rfl ?_
      refine ww_widen (k := c + 3) (n := s + 18) (by show c + 1 + 0 + 0 ≤ c + 3; omega) (by show s + 6 + 0 + 0 ≤ s + 18; omega) ?_
      exact hk23 _ _ _ _ _ _ _ _ _ _ _ _ _ _ _ _ _ _ _ hf
    · replace hf := ifT c_172 hf
      refine ww_aload_n C dL_law_330 rfl 5 rfl ?_
      refine ww_iconst (v := 0) C dL_law_331 (by decide) ?_
      obtain ⟨g_173, hf⟩ := gdE hf
      refine ww_lald C (f := p297.2.2.2.2.2.2) (w := wLon E q19 p297.2.2.2.2.2.2) 19 0 rfl q_Lon (inB_vp g_173) dL_law_332 ?_
      refine ww_iload C dL_law_333 0 rfl ?_
      refine ww_i2l C dL_law_335 ?_
      refine ww_lcmp C dL_law_336 ?_
      refine ww_if_eq (tgt := 342) C dL_law_337 (by decide) (fun c_174 => ?_) (fun c_174 => ?_)
      · replace hf := ifT c_174 hf
        refine ww_goto (tgt := 2229) C dL_law_342 (by decide) ?_
        obtain ⟨x4_2229, e_x4_2229⟩ : ∃ y : Int32, y = x4 + 6 := ⟨_, rfl⟩
        replace hf := ltE e_x4_2229 hf
        refine ww_iinc (v := x4_2229) (lv' := [(4, .int x4_2229), (6, .int p309.1), (5, .int p297.1), (0, .ref bS), (1, .ref (a0 0)), (2, .ref (a17 0)), (3, .ref q19)]) C dL_law_2229 6 rfl (by rw [e_x4_2229]; rfl) (by decide) rfl ?_
        refine ww_goto (tgt := 23) C dL_law_2232 (by decide) ?_
        refine ww_sub C (lv' := [(0, .ref bS), (1, .ref (a0 0)), (2, .ref (a17 0)), (3, .ref q19), (4, .int x4_2229)]) [3, 4, 5, 6, 0] rfl ?_
        refine ww_widen (k := c + 3) (n := s + 18) (by show c + 1 + 0 + 0 ≤ c + 3; omega) (by show s + 6 + 0 + 0 ≤ s + 18; omega) ?_
        exact hk23 _ _ _ _ _ _ _ _ _ _ _ _ _ _ _ _ _ _ _ hf
      · replace hf := ifF c_174 hf
        refine ww_iconst (v := 0) C dL_law_340 (by decide) ?_
        cases hf
  · replace hf := ifF c_171 hf
    refine ww_iconst (v := 0) C dL_law_323 (by decide) ?_
    cases hf

set_option maxHeartbeats 8000000 in
set_option maxRecDepth 100000 in
theorem w_L_law_345 {E : Ex} {K : Kx} (C : Cx E K cL_law 9 (some .boolean) RL wsL_law rmL_law) {a0 : Nat → Nat} {a1 : Nat → Nat} {a2 : Nat → Nat} {a3 : Nat → Nat} {q4 : Nat} {ah4 : Nat → Nat → Nat} {a5 : Nat → Nat} {a6 : Nat → Nat} {a7 : Nat → Nat} {a8 : Nat → Nat} {a9 : Nat → Nat} {a10 : Nat → Nat} {a11 : Nat → Nat} {a12 : Nat → Nat} {a13 : Nat → Nat} {a14 : Nat → Nat} {q15 : Nat} {q16 : Nat} {a17 : Nat → Nat} {q18 : Nat} {q19 : Nat} {bS L : Nat} {xs : Nat → Int32} {Q : State → Prop} (T0 : TL E K) (S0 : SX bS L xs K) (HR : ∀ (c s : Nat) (lv : List (Nat × Value)) (gs : List va_W), c ≤ 601024 → s ≤ 7293034 → WW E K c s Q 2236 lv [.int 1] gs) {c s : Nat} (hc : c + 3 ≤ 601024) (hs : s + 18 ≤ 7293034) {k23 : Int32 → GWV → HouseV → HouseV → HistV → (Nat → HouseV) → HouseV → SightV → SightV → BestV → HouseV → SightV → IntrV → ToksV → QReadV → (Nat → Int32) → (Nat → Int32) → ModelV → (Nat → Int64) → Option Unit} (hk23 : ∀ (x4 : Int32) (v0 : GWV) (v1 : HouseV) (v2 : HouseV) (v3 : HistV) (v4 : Nat → HouseV) (v5 : HouseV) (v6 : SightV) (v7 : SightV) (v8 : BestV) (v9 : HouseV) (v10 : SightV) (v11 : IntrV) (v12 : ToksV) (v14 : QReadV) (v15 : Nat → Int32) (v16 : Nat → Int32) (v17 : ModelV) (v19 : Nat → Int64), k23 x4 v0 v1 v2 v3 v4 v5 v6 v7 v8 v9 v10 v11 v12 v14 v15 v16 v17 v19 = some () → WW E K (c + 3) (s + 18) Q 23 [(0, .ref bS), (1, .ref (a0 0)), (2, .ref (a17 0)), (3, .ref q19), (4, .int x4)] [] [wGW E a0 (rf10 (a1 0) (a2 0) (a3 0) (a6 0) (a7 0) (a8 0) (a11 0) (a12 0) (a13 0) (a14 0)) v0, wHouse E a1 v1, wHouse E a2 v2, wHist E a3 (rf2 q4 (a5 0)) v3, wHs E q4 ah4 v4, wHouse E a5 v5, wSight E a6 v6, wSight E a7 v7, wBest E a8 (rf2 (a9 0) (a10 0)) v8, wHouse E a9 v9, wSight E a10 v10, wIntr E a11 v11, wToks E a12 v12, wHRead E a13 (rf1 (a12 0)), wQRead E a14 (rf3 (a12 0) q15 q16) v14, wArr E q15 12 v15, wArr E q16 12 v16, wModel E a17 (rf2 (a17 1) q18) v17, wNm E q18, wLon E q19 v19]) {x4 : Int32} {v0 : GWV} {v1 : HouseV} {v2 : HouseV} {v3 : HistV} {v4 : Nat → HouseV} {v5 : HouseV} {v6 : SightV} {v7 : SightV} {v8 : BestV} {v9 : HouseV} {v10 : SightV} {v11 : IntrV} {v12 : ToksV} {v14 : QReadV} {v15 : Nat → Int32} {v16 : Nat → Int32} {v17 : ModelV} {v19 : Nat → Int64} (hf : Law_345 L xs k23 x4 v0 v1 v2 v3 v4 v5 v6 v7 v8 v9 v10 v11 v12 v14 v15 v16 v17 v19 = some ()) : WW E K c s Q 345 [(0, .ref bS), (1, .ref (a0 0)), (2, .ref (a17 0)), (3, .ref q19), (4, .int x4)] [] [wGW E a0 (rf10 (a1 0) (a2 0) (a3 0) (a6 0) (a7 0) (a8 0) (a11 0) (a12 0) (a13 0) (a14 0)) v0, wHouse E a1 v1, wHouse E a2 v2, wHist E a3 (rf2 q4 (a5 0)) v3, wHs E q4 ah4 v4, wHouse E a5 v5, wSight E a6 v6, wSight E a7 v7, wBest E a8 (rf2 (a9 0) (a10 0)) v8, wHouse E a9 v9, wSight E a10 v10, wIntr E a11 v11, wToks E a12 v12, wHRead E a13 (rf1 (a12 0)), wQRead E a14 (rf3 (a12 0) q15 q16) v14, wArr E q15 12 v15, wArr E q16 12 v16, wModel E a17 (rf2 (a17 1) q18) v17, wNm E q18, wLon E q19 v19] := by
  rw [Law_345] at hf
  refine ww_aload_n C dL_law_345 rfl 1 rfl ?_
  obtain ⟨p346, hp346, hf⟩ := bdE hf
  refine ww_callV C (As := []) (st := []) (gr := [wHouse E a1 v1, wHouse E a2 v2, wHist E a3 (rf2 q4 (a5 0)) v3, wHs E q4 ah4 v4, wHouse E a5 v5, wSight E a6 v6, wSight E a7 v7, wBest E a8 (rf2 (a9 0) (a10 0)) v8, wHouse E a9 v9, wSight E a10 v10, wIntr E a11 v11, wToks E a12 v12, wHRead E a13 (rf1 (a12 0)), wQRead E a14 (rf3 (a12 0) q15 q16) v14, wArr E q15 12 v15, wArr E q16 12 v16, wModel E a17 (rf2 (a17 1) q18) v17, wNm E q18, wLon E q19 v19]) (c_X8_errorPosition (E := E) (a0 := a0) (h0_0 := a1 0) (h0_1 := a2 0) (h0_2 := a3 0) (h0_3 := a6 0) (h0_4 := a7 0) (h0_5 := a8 0) (h0_6 := a11 0) (h0_7 := a12 0) (h0_8 := a13 0) (h0_9 := a14 0) hp346) gL_law_X8_errorPosition rfl yk_X8_errorPosition ⟨by decide, by decide⟩ ⟨by show c + 0 ≤ 601024; omega, by show s + 0 ≤ 7293034; omega⟩ clOK8 0 0 rfl rfl [0] [1, 2, 3, 4, 5, 6, 7, 8, 9, 10, 11, 12, 13, 14, 15, 16, 17, 18, 19] 20 rfl (by decide) rfl rfl (Nat.le_of_ble_eq_true rfl) dL_law_346 ?_
  rintro _ _ ⟨rfl, rfl⟩
  refine ww_perm (gs' := [wGW E a0 (rf10 (a1 0) (a2 0) (a3 0) (a6 0) (a7 0) (a8 0) (a11 0) (a12 0) (a13 0) (a14 0)) v0, wHouse E a1 v1, wHouse E a2 v2, wHist E a3 (rf2 q4 (a5 0)) v3, wHs E q4 ah4 v4, wHouse E a5 v5, wSight E a6 v6, wSight E a7 v7, wBest E a8 (rf2 (a9 0) (a10 0)) v8, wHouse E a9 v9, wSight E a10 v10, wIntr E a11 v11, wToks E a12 v12, wHRead E a13 (rf1 (a12 0)), wQRead E a14 (rf3 (a12 0) q15 q16) v14, wArr E q15 12 v15, wArr E q16 12 v16, wModel E a17 (rf2 (a17 1) q18) v17, wNm E q18, wLon E q19 v19]) [0, 1, 2, 3, 4, 5, 6, 7, 8, 9, 10, 11, 12, 13, 14, 15, 16, 17, 18, 19] 20 rfl (by decide) rfl ?_
  refine ww_aload_n C dL_law_349 rfl 2 rfl ?_
  obtain ⟨p350, hp350, hf⟩ := bdE hf
  refine ww_callV C (As := []) (st := [.int p346]) (gr := [wGW E a0 (rf10 (a1 0) (a2 0) (a3 0) (a6 0) (a7 0) (a8 0) (a11 0) (a12 0) (a13 0) (a14 0)) v0, wHouse E a1 v1, wHouse E a2 v2, wHist E a3 (rf2 q4 (a5 0)) v3, wHs E q4 ah4 v4, wHouse E a5 v5, wSight E a6 v6, wSight E a7 v7, wBest E a8 (rf2 (a9 0) (a10 0)) v8, wHouse E a9 v9, wSight E a10 v10, wIntr E a11 v11, wToks E a12 v12, wHRead E a13 (rf1 (a12 0)), wQRead E a14 (rf3 (a12 0) q15 q16) v14, wArr E q15 12 v15, wArr E q16 12 v16, wNm E q18, wLon E q19 v19]) (c_X9_errorPosition (E := E) (a0 := a17) (h0_0 := a17 1) (h0_1 := q18) hp350) gL_law_X9_errorPosition rfl yk_X9_errorPosition ⟨by decide, by decide⟩ ⟨by show c + 0 + 0 ≤ 601024; omega, by show s + 0 + 0 ≤ 7293034; omega⟩ clOK9 0 0 rfl rfl [17] [0, 1, 2, 3, 4, 5, 6, 7, 8, 9, 10, 11, 12, 13, 14, 15, 16, 18, 19] 20 rfl (by decide) rfl rfl (Nat.le_of_ble_eq_true rfl) dL_law_350 ?_
  rintro _ _ ⟨rfl, rfl⟩
  refine ww_perm (gs' := [wGW E a0 (rf10 (a1 0) (a2 0) (a3 0) (a6 0) (a7 0) (a8 0) (a11 0) (a12 0) (a13 0) (a14 0)) v0, wHouse E a1 v1, wHouse E a2 v2, wHist E a3 (rf2 q4 (a5 0)) v3, wHs E q4 ah4 v4, wHouse E a5 v5, wSight E a6 v6, wSight E a7 v7, wBest E a8 (rf2 (a9 0) (a10 0)) v8, wHouse E a9 v9, wSight E a10 v10, wIntr E a11 v11, wToks E a12 v12, wHRead E a13 (rf1 (a12 0)), wQRead E a14 (rf3 (a12 0) q15 q16) v14, wArr E q15 12 v15, wArr E q16 12 v16, wModel E a17 (rf2 (a17 1) q18) p350.2, wNm E q18, wLon E q19 v19]) [1, 2, 3, 4, 5, 6, 7, 8, 9, 10, 11, 12, 13, 14, 15, 16, 17, 0, 18, 19] 20 rfl (by decide) rfl ?_
  refine ww_icmp_eq (tgt := 2229) C dL_law_353 (by decide) (fun c_169 => ?_) (fun c_169 => ?_)
  · replace hf := ifT c_169 hf
    obtain ⟨x4_2229, e_x4_2229⟩ : ∃ y : Int32, y = x4 + 6 := ⟨_, rfl⟩
    replace hf := ltE e_x4_2229 hf
    refine ww_iinc (v := x4_2229) (lv' := [(4, .int x4_2229), (0, .ref bS), (1, .ref (a0 0)), (2, .ref (a17 0)), (3, .ref q19)]) C dL_law_2229 4 rfl (by rw [e_x4_2229]; rfl) (by decide) rfl ?_
    refine ww_goto (tgt := 23) C dL_law_2232 (by decide) ?_
    refine ww_sub C (lv' := [(0, .ref bS), (1, .ref (a0 0)), (2, .ref (a17 0)), (3, .ref q19), (4, .int x4_2229)]) [1, 2, 3, 4, 0] rfl ?_
    refine ww_widen (k := c + 3) (n := s + 18) (by show c + 0 + 0 ≤ c + 3; omega) (by show s + 0 + 0 ≤ s + 18; omega) ?_
    exact hk23 _ _ _ _ _ _ _ _ _ _ _ _ _ _ _ _ _ _ _ hf
  · replace hf := ifF c_169 hf
    refine ww_iconst (v := 0) C dL_law_356 (by decide) ?_
    cases hf

set_option maxHeartbeats 8000000 in
set_option maxRecDepth 100000 in
theorem w_L_law_358 {E : Ex} {K : Kx} (C : Cx E K cL_law 9 (some .boolean) RL wsL_law rmL_law) {a0 : Nat → Nat} {a1 : Nat → Nat} {a2 : Nat → Nat} {a3 : Nat → Nat} {q4 : Nat} {ah4 : Nat → Nat → Nat} {a5 : Nat → Nat} {a6 : Nat → Nat} {a7 : Nat → Nat} {a8 : Nat → Nat} {a9 : Nat → Nat} {a10 : Nat → Nat} {a11 : Nat → Nat} {a12 : Nat → Nat} {a13 : Nat → Nat} {a14 : Nat → Nat} {q15 : Nat} {q16 : Nat} {a17 : Nat → Nat} {q18 : Nat} {q19 : Nat} {bS L : Nat} {xs : Nat → Int32} {Q : State → Prop} (T0 : TL E K) (S0 : SX bS L xs K) (HR : ∀ (c s : Nat) (lv : List (Nat × Value)) (gs : List va_W), c ≤ 601024 → s ≤ 7293034 → WW E K c s Q 2236 lv [.int 1] gs) {c s : Nat} (hc : c + 3 ≤ 601024) (hs : s + 18 ≤ 7293034) {k23 : Int32 → GWV → HouseV → HouseV → HistV → (Nat → HouseV) → HouseV → SightV → SightV → BestV → HouseV → SightV → IntrV → ToksV → QReadV → (Nat → Int32) → (Nat → Int32) → ModelV → (Nat → Int64) → Option Unit} (hk23 : ∀ (x4 : Int32) (v0 : GWV) (v1 : HouseV) (v2 : HouseV) (v3 : HistV) (v4 : Nat → HouseV) (v5 : HouseV) (v6 : SightV) (v7 : SightV) (v8 : BestV) (v9 : HouseV) (v10 : SightV) (v11 : IntrV) (v12 : ToksV) (v14 : QReadV) (v15 : Nat → Int32) (v16 : Nat → Int32) (v17 : ModelV) (v19 : Nat → Int64), k23 x4 v0 v1 v2 v3 v4 v5 v6 v7 v8 v9 v10 v11 v12 v14 v15 v16 v17 v19 = some () → WW E K (c + 3) (s + 18) Q 23 [(0, .ref bS), (1, .ref (a0 0)), (2, .ref (a17 0)), (3, .ref q19), (4, .int x4)] [] [wGW E a0 (rf10 (a1 0) (a2 0) (a3 0) (a6 0) (a7 0) (a8 0) (a11 0) (a12 0) (a13 0) (a14 0)) v0, wHouse E a1 v1, wHouse E a2 v2, wHist E a3 (rf2 q4 (a5 0)) v3, wHs E q4 ah4 v4, wHouse E a5 v5, wSight E a6 v6, wSight E a7 v7, wBest E a8 (rf2 (a9 0) (a10 0)) v8, wHouse E a9 v9, wSight E a10 v10, wIntr E a11 v11, wToks E a12 v12, wHRead E a13 (rf1 (a12 0)), wQRead E a14 (rf3 (a12 0) q15 q16) v14, wArr E q15 12 v15, wArr E q16 12 v16, wModel E a17 (rf2 (a17 1) q18) v17, wNm E q18, wLon E q19 v19]) {x4 : Int32} {v0 : GWV} {v1 : HouseV} {v2 : HouseV} {v3 : HistV} {v4 : Nat → HouseV} {v5 : HouseV} {v6 : SightV} {v7 : SightV} {v8 : BestV} {v9 : HouseV} {v10 : SightV} {v11 : IntrV} {v12 : ToksV} {v14 : QReadV} {v15 : Nat → Int32} {v16 : Nat → Int32} {v17 : ModelV} {v19 : Nat → Int64} (hf : Law_358 L xs k23 x4 v0 v1 v2 v3 v4 v5 v6 v7 v8 v9 v10 v11 v12 v14 v15 v16 v17 v19 = some ()) : WW E K c s Q 358 [(0, .ref bS), (1, .ref (a0 0)), (2, .ref (a17 0)), (3, .ref q19), (4, .int x4)] [] [wGW E a0 (rf10 (a1 0) (a2 0) (a3 0) (a6 0) (a7 0) (a8 0) (a11 0) (a12 0) (a13 0) (a14 0)) v0, wHouse E a1 v1, wHouse E a2 v2, wHist E a3 (rf2 q4 (a5 0)) v3, wHs E q4 ah4 v4, wHouse E a5 v5, wSight E a6 v6, wSight E a7 v7, wBest E a8 (rf2 (a9 0) (a10 0)) v8, wHouse E a9 v9, wSight E a10 v10, wIntr E a11 v11, wToks E a12 v12, wHRead E a13 (rf1 (a12 0)), wQRead E a14 (rf3 (a12 0) q15 q16) v14, wArr E q15 12 v15, wArr E q16 12 v16, wModel E a17 (rf2 (a17 1) q18) v17, wNm E q18, wLon E q19 v19] := by
  rw [Law_358] at hf
  refine ww_aload_n C dL_law_358 rfl 1 rfl ?_
  refine ww_aload_n C dL_law_359 rfl 0 rfl ?_
  refine ww_iload C dL_law_360 4 rfl ?_
  refine ww_iconst (v := 1) C dL_law_362 (by decide) ?_
  refine ww_iadd C dL_law_363 ?_
  obtain ⟨g_164, hf⟩ := gdE hf
  refine ww_sld C S0 (inB_vp g_164) dL_law_364 ?_
  refine ww_aload_n C dL_law_365 rfl 3 rfl ?_
  obtain ⟨p366, hp366, hf⟩ := bdE hf
  refine ww_callSL C T0 (As := [.ref (a0 0), .int (xs (Int32.toNatClampNeg (x4 + 1))), .ref q19]) (st := []) (gr := [wHouse E a2 v2, wHist E a3 (rf2 q4 (a5 0)) v3, wHs E q4 ah4 v4, wHouse E a5 v5, wSight E a7 v7, wBest E a8 (rf2 (a9 0) (a10 0)) v8, wHouse E a9 v9, wSight E a10 v10, wIntr E a11 v11, wToks E a12 v12, wHRead E a13 (rf1 (a12 0)), wQRead E a14 (rf3 (a12 0) q15 q16) v14, wArr E q15 12 v15, wArr E q16 12 v16, wModel E a17 (rf2 (a17 1) q18) v17, wNm E q18]) (c_L_size (E := E) (a0 := a0) (h0_1 := a2 0) (h0_2 := a3 0) (h0_4 := a7 0) (h0_5 := a8 0) (h0_6 := a11 0) (h0_7 := a12 0) (h0_8 := a13 0) (h0_9 := a14 0) (a1 := a1) (a2 := a6) (q3 := q19) hp366) gL_law_L_size rfl ysk_L_size ⟨by decide, by decide⟩ ⟨by show c + 1 ≤ 601024; omega, by show s + 6 ≤ 7293034; omega⟩ [0, 1, 6, 19] [2, 3, 4, 5, 7, 8, 9, 10, 11, 12, 13, 14, 15, 16, 17, 18] 20 rfl (by decide) rfl rfl (Nat.le_of_ble_eq_true rfl) dL_law_366 ?_
  rintro _ _ ⟨rfl, rfl⟩
  refine ww_perm (gs' := [wGW E a0 (rf10 (a1 0) (a2 0) (a3 0) (a6 0) (a7 0) (a8 0) (a11 0) (a12 0) (a13 0) (a14 0)) v0, wHouse E a1 v1, wHouse E a2 v2, wHist E a3 (rf2 q4 (a5 0)) v3, wHs E q4 ah4 v4, wHouse E a5 v5, wSight E a6 p366.2.1, wSight E a7 v7, wBest E a8 (rf2 (a9 0) (a10 0)) v8, wHouse E a9 v9, wSight E a10 v10, wIntr E a11 v11, wToks E a12 v12, wHRead E a13 (rf1 (a12 0)), wQRead E a14 (rf3 (a12 0) q15 q16) v14, wArr E q15 12 v15, wArr E q16 12 v16, wModel E a17 (rf2 (a17 1) q18) v17, wNm E q18, wLon E q19 p366.2.2]) [0, 1, 4, 5, 6, 7, 2, 8, 9, 10, 11, 12, 13, 14, 15, 16, 17, 18, 19, 3] 20 rfl (by decide) rfl ?_
  refine ww_istore (lv' := [(5, .int p366.1), (0, .ref bS), (1, .ref (a0 0)), (2, .ref (a17 0)), (3, .ref q19), (4, .int x4)]) C dL_law_369 (by decide) rfl ?_
  refine ww_aload_n C dL_law_371 rfl 3 rfl ?_
  refine ww_aload_n C dL_law_372 rfl 1 rfl ?_
  refine ww_iload C dL_law_373 5 rfl ?_
  refine ww_iconst (v := 1) C dL_law_375 (by decide) ?_
  refine ww_iadd C dL_law_376 ?_
  refine ww_sld C S0 (inB_vp g_164) dL_law_377 ?_
  obtain ⟨p378, hp378, hf⟩ := bdE hf
  refine ww_callV C (As := [.int (xs (Int32.toNatClampNeg (x4 + 1)))]) (st := []) (gr := [wGW E a0 (rf10 (a1 0) (a2 0) (a3 0) (a6 0) (a7 0) (a8 0) (a11 0) (a12 0) (a13 0) (a14 0)) v0, wHouse E a1 v1, wHouse E a2 v2, wHist E a3 (rf2 q4 (a5 0)) v3, wHs E q4 ah4 v4, wHouse E a5 v5, wSight E a6 p366.2.1, wSight E a7 v7, wBest E a8 (rf2 (a9 0) (a10 0)) v8, wHouse E a9 v9, wSight E a10 v10, wIntr E a11 v11, wToks E a12 v12, wHRead E a13 (rf1 (a12 0)), wQRead E a14 (rf3 (a12 0) q15 q16) v14, wArr E q15 12 v15, wArr E q16 12 v16, wNm E q18, wLon E q19 p366.2.2]) (c_X9_size (E := E) (a0 := a17) (h0_1 := q18) hp378) gL_law_X9_size rfl yk_X9_size ⟨by decide, by decide⟩ ⟨by show c + 1 + 0 ≤ 601024; omega, by show s + 6 + 0 ≤ 7293034; omega⟩ clOK9 0 0 rfl rfl [17] [0, 1, 2, 3, 4, 5, 6, 7, 8, 9, 10, 11, 12, 13, 14, 15, 16, 18, 19] 20 rfl (by decide) rfl rfl (Nat.le_of_ble_eq_true rfl) dL_law_378 ?_
  rintro _ _ ⟨rfl, rfl⟩
  refine ww_perm (gs' := [wGW E a0 (rf10 (a1 0) (a2 0) (a3 0) (a6 0) (a7 0) (a8 0) (a11 0) (a12 0) (a13 0) (a14 0)) v0, wHouse E a1 v1, wHouse E a2 v2, wHist E a3 (rf2 q4 (a5 0)) v3, wHs E q4 ah4 v4, wHouse E a5 v5, wSight E a6 p366.2.1, wSight E a7 v7, wBest E a8 (rf2 (a9 0) (a10 0)) v8, wHouse E a9 v9, wSight E a10 v10, wIntr E a11 v11, wToks E a12 v12, wHRead E a13 (rf1 (a12 0)), wQRead E a14 (rf3 (a12 0) q15 q16) v14, wArr E q15 12 v15, wArr E q16 12 v16, wModel E a17 (rf2 (a17 1) q18) p378.2, wNm E q18, wLon E q19 p366.2.2]) [1, 2, 3, 4, 5, 6, 7, 8, 9, 10, 11, 12, 13, 14, 15, 16, 17, 0, 18, 19] 20 rfl (by decide) rfl ?_
  refine ww_istore (lv' := [(6, .int p378.1), (5, .int p366.1), (0, .ref bS), (1, .ref (a0 0)), (2, .ref (a17 0)), (3, .ref q19), (4, .int x4)]) C dL_law_381 (by decide) rfl ?_
  refine ww_aload_n C dL_law_383 rfl 4 rfl ?_
  obtain ⟨p384, hp384, hf⟩ := bdE hf
  refine ww_callV C (As := []) (st := []) (gr := [wGW E a0 (rf10 (a1 0) (a2 0) (a3 0) (a6 0) (a7 0) (a8 0) (a11 0) (a12 0) (a13 0) (a14 0)) v0, wHouse E a1 v1, wHouse E a2 v2, wHist E a3 (rf2 q4 (a5 0)) v3, wHs E q4 ah4 v4, wHouse E a5 v5, wSight E a6 p366.2.1, wSight E a7 v7, wBest E a8 (rf2 (a9 0) (a10 0)) v8, wHouse E a9 v9, wSight E a10 v10, wIntr E a11 v11, wToks E a12 v12, wHRead E a13 (rf1 (a12 0)), wQRead E a14 (rf3 (a12 0) q15 q16) v14, wArr E q15 12 v15, wArr E q16 12 v16, wNm E q18, wLon E q19 p366.2.2]) (c_X9_thrown (E := E) (a0 := a17) (h0_0 := a17 1) (h0_1 := q18) hp384) gL_law_X9_thrown rfl yk_X9_thrown ⟨by decide, by decide⟩ ⟨by show c + 1 + 0 + 0 ≤ 601024; omega, by show s + 6 + 0 + 0 ≤ 7293034; omega⟩ clOK9 0 0 rfl rfl [17] [0, 1, 2, 3, 4, 5, 6, 7, 8, 9, 10, 11, 12, 13, 14, 15, 16, 18, 19] 20 rfl (by decide) rfl rfl (Nat.le_of_ble_eq_true rfl) dL_law_384 ?_
  rintro _ _ ⟨rfl, rfl⟩
  refine ww_perm (gs' := [wGW E a0 (rf10 (a1 0) (a2 0) (a3 0) (a6 0) (a7 0) (a8 0) (a11 0) (a12 0) (a13 0) (a14 0)) v0, wHouse E a1 v1, wHouse E a2 v2, wHist E a3 (rf2 q4 (a5 0)) v3, wHs E q4 ah4 v4, wHouse E a5 v5, wSight E a6 p366.2.1, wSight E a7 v7, wBest E a8 (rf2 (a9 0) (a10 0)) v8, wHouse E a9 v9, wSight E a10 v10, wIntr E a11 v11, wToks E a12 v12, wHRead E a13 (rf1 (a12 0)), wQRead E a14 (rf3 (a12 0) q15 q16) v14, wArr E q15 12 v15, wArr E q16 12 v16, wModel E a17 (rf2 (a17 1) q18) p378.2, wNm E q18, wLon E q19 p366.2.2]) [1, 2, 3, 4, 5, 6, 7, 8, 9, 10, 11, 12, 13, 14, 15, 16, 17, 0, 18, 19] 20 rfl (by decide) rfl ?_
  refine ww_iload C dL_law_387 1 rfl ?_
  refine ww_icmp_eq (tgt := 394) C dL_law_389 (by decide) (fun c_165 => ?_) (fun c_165 => ?_)
  · replace hf := ifT c_165 hf
    refine ww_iload C dL_law_394 1 rfl ?_
    refine ww_if_ne (tgt := 411) C dL_law_396 (by decide) (fun c_166 => ?_) (fun c_166 => ?_)
    · replace hf := ifF c_166 hf
      refine ww_goto (tgt := 2229) C dL_law_411 (by decide) ?_
      obtain ⟨x4_2229, e_x4_2229⟩ : ∃ y : Int32, y = x4 + 6 := ⟨_, rfl⟩
      replace hf := ltE e_x4_2229 hf
      refine ww_iinc (v := x4_2229) (lv' := [(4, .int x4_2229), (6, .int p378.1), (5, .int p366.1), (0, .ref bS), (1, .ref (a0 0)), (2, .ref (a17 0)), (3, .ref q19)]) C dL_law_2229 6 rfl (by rw [e_x4_2229]; rfl) (by decide) rfl ?_
      refine ww_goto (tgt := 23) C dL_law_2232 (by decide) ?_
      refine ww_sub C (lv' := [(0, .ref bS), (1, .ref (a0 0)), (2, .ref (a17 0)), (3, .ref q19), (4, .int x4_2229)]) [3, 4, 5, 6, 0] rfl ?_
      refine ww_widen (k := c + 3) (n := s + 18) (by show c + 1 + 0 + 0 ≤ c + 3; omega) (by show s + 6 + 0 + 0 ≤ s + 18; omega) ?_
      exact hk23 _ _ _ _ _ _ _ _ _ _ _ _ _ _ _ _ _ _ _ hf
    · replace hf := ifT c_166 hf
      refine ww_aload_n C dL_law_399 rfl 5 rfl ?_
      refine ww_iconst (v := 0) C dL_law_400 (by decide) ?_
      obtain ⟨g_167, hf⟩ := gdE hf
      refine ww_lald C (f := p366.2.2) (w := wLon E q19 p366.2.2) 19 0 rfl q_Lon (inB_vp g_167) dL_law_401 ?_
      refine ww_iload C dL_law_402 0 rfl ?_
      refine ww_i2l C dL_law_404 ?_
      refine ww_lcmp C dL_law_405 ?_
      refine ww_if_eq (tgt := 411) C dL_law_406 (by decide) (fun c_168 => ?_) (fun c_168 => ?_)
      · replace hf := ifT c_168 hf
        refine ww_goto (tgt := 2229) C dL_law_411 (by decide) ?_
        obtain ⟨x4_2229, e_x4_2229⟩ : ∃ y : Int32, y = x4 + 6 := ⟨_, rfl⟩
        replace hf := ltE e_x4_2229 hf
        refine ww_iinc (v := x4_2229) (lv' := [(4, .int x4_2229), (6, .int p378.1), (5, .int p366.1), (0, .ref bS), (1, .ref (a0 0)), (2, .ref (a17 0)), (3, .ref q19)]) C dL_law_2229 6 rfl (by rw [e_x4_2229]; rfl) (by decide) rfl ?_
        refine ww_goto (tgt := 23) C dL_law_2232 (by decide) ?_
        refine ww_sub C (lv' := [(0, .ref bS), (1, .ref (a0 0)), (2, .ref (a17 0)), (3, .ref q19), (4, .int x4_2229)]) [3, 4, 5, 6, 0] rfl ?_
        refine ww_widen (k := c + 3) (n := s + 18) (by show c + 1 + 0 + 0 ≤ c + 3; omega) (by show s + 6 + 0 + 0 ≤ s + 18; omega) ?_
        exact hk23 _ _ _ _ _ _ _ _ _ _ _ _ _ _ _ _ _ _ _ hf
      · replace hf := ifF c_168 hf
        refine ww_iconst (v := 0) C dL_law_409 (by decide) ?_
        cases hf
  · replace hf := ifF c_165 hf
    refine ww_iconst (v := 0) C dL_law_392 (by decide) ?_
    cases hf

set_option maxHeartbeats 8000000 in
set_option maxRecDepth 100000 in
theorem w_L_law_414 {E : Ex} {K : Kx} (C : Cx E K cL_law 9 (some .boolean) RL wsL_law rmL_law) {a0 : Nat → Nat} {a1 : Nat → Nat} {a2 : Nat → Nat} {a3 : Nat → Nat} {q4 : Nat} {ah4 : Nat → Nat → Nat} {a5 : Nat → Nat} {a6 : Nat → Nat} {a7 : Nat → Nat} {a8 : Nat → Nat} {a9 : Nat → Nat} {a10 : Nat → Nat} {a11 : Nat → Nat} {a12 : Nat → Nat} {a13 : Nat → Nat} {a14 : Nat → Nat} {q15 : Nat} {q16 : Nat} {a17 : Nat → Nat} {q18 : Nat} {q19 : Nat} {bS L : Nat} {xs : Nat → Int32} {Q : State → Prop} (T0 : TL E K) (S0 : SX bS L xs K) (HR : ∀ (c s : Nat) (lv : List (Nat × Value)) (gs : List va_W), c ≤ 601024 → s ≤ 7293034 → WW E K c s Q 2236 lv [.int 1] gs) {c s : Nat} (hc : c + 3 ≤ 601024) (hs : s + 18 ≤ 7293034) {k23 : Int32 → GWV → HouseV → HouseV → HistV → (Nat → HouseV) → HouseV → SightV → SightV → BestV → HouseV → SightV → IntrV → ToksV → QReadV → (Nat → Int32) → (Nat → Int32) → ModelV → (Nat → Int64) → Option Unit} (hk23 : ∀ (x4 : Int32) (v0 : GWV) (v1 : HouseV) (v2 : HouseV) (v3 : HistV) (v4 : Nat → HouseV) (v5 : HouseV) (v6 : SightV) (v7 : SightV) (v8 : BestV) (v9 : HouseV) (v10 : SightV) (v11 : IntrV) (v12 : ToksV) (v14 : QReadV) (v15 : Nat → Int32) (v16 : Nat → Int32) (v17 : ModelV) (v19 : Nat → Int64), k23 x4 v0 v1 v2 v3 v4 v5 v6 v7 v8 v9 v10 v11 v12 v14 v15 v16 v17 v19 = some () → WW E K (c + 3) (s + 18) Q 23 [(0, .ref bS), (1, .ref (a0 0)), (2, .ref (a17 0)), (3, .ref q19), (4, .int x4)] [] [wGW E a0 (rf10 (a1 0) (a2 0) (a3 0) (a6 0) (a7 0) (a8 0) (a11 0) (a12 0) (a13 0) (a14 0)) v0, wHouse E a1 v1, wHouse E a2 v2, wHist E a3 (rf2 q4 (a5 0)) v3, wHs E q4 ah4 v4, wHouse E a5 v5, wSight E a6 v6, wSight E a7 v7, wBest E a8 (rf2 (a9 0) (a10 0)) v8, wHouse E a9 v9, wSight E a10 v10, wIntr E a11 v11, wToks E a12 v12, wHRead E a13 (rf1 (a12 0)), wQRead E a14 (rf3 (a12 0) q15 q16) v14, wArr E q15 12 v15, wArr E q16 12 v16, wModel E a17 (rf2 (a17 1) q18) v17, wNm E q18, wLon E q19 v19]) {x4 : Int32} {v0 : GWV} {v1 : HouseV} {v2 : HouseV} {v3 : HistV} {v4 : Nat → HouseV} {v5 : HouseV} {v6 : SightV} {v7 : SightV} {v8 : BestV} {v9 : HouseV} {v10 : SightV} {v11 : IntrV} {v12 : ToksV} {v14 : QReadV} {v15 : Nat → Int32} {v16 : Nat → Int32} {v17 : ModelV} {v19 : Nat → Int64} (hf : Law_414 L xs k23 x4 v0 v1 v2 v3 v4 v5 v6 v7 v8 v9 v10 v11 v12 v14 v15 v16 v17 v19 = some ()) : WW E K c s Q 414 [(0, .ref bS), (1, .ref (a0 0)), (2, .ref (a17 0)), (3, .ref q19), (4, .int x4)] [] [wGW E a0 (rf10 (a1 0) (a2 0) (a3 0) (a6 0) (a7 0) (a8 0) (a11 0) (a12 0) (a13 0) (a14 0)) v0, wHouse E a1 v1, wHouse E a2 v2, wHist E a3 (rf2 q4 (a5 0)) v3, wHs E q4 ah4 v4, wHouse E a5 v5, wSight E a6 v6, wSight E a7 v7, wBest E a8 (rf2 (a9 0) (a10 0)) v8, wHouse E a9 v9, wSight E a10 v10, wIntr E a11 v11, wToks E a12 v12, wHRead E a13 (rf1 (a12 0)), wQRead E a14 (rf3 (a12 0) q15 q16) v14, wArr E q15 12 v15, wArr E q16 12 v16, wModel E a17 (rf2 (a17 1) q18) v17, wNm E q18, wLon E q19 v19] := by
  rw [Law_414] at hf
  refine ww_aload_n C dL_law_414 rfl 1 rfl ?_
  refine ww_aload_n C dL_law_415 rfl 0 rfl ?_
  refine ww_iload C dL_law_416 4 rfl ?_
  refine ww_iconst (v := 1) C dL_law_418 (by decide) ?_
  refine ww_iadd C dL_law_419 ?_
  obtain ⟨g_158, hf⟩ := gdE hf
  refine ww_sld C S0 (inB_vp g_158) dL_law_420 ?_
  refine ww_aload_n C dL_law_421 rfl 0 rfl ?_
  refine ww_iload C dL_law_422 4 rfl ?_
  refine ww_iconst (v := 2) C dL_law_424 (by decide) ?_
  refine ww_iadd C dL_law_425 ?_
  obtain ⟨g_159, hf⟩ := gdE hf
  refine ww_sld C S0 (inB_vp g_159) dL_law_426 ?_
  refine ww_aload_n C dL_law_427 rfl 3 rfl ?_
  obtain ⟨p428, hp428, hf⟩ := bdE hf
  refine ww_callSL C T0 (As := [.ref (a0 0), .int (xs (Int32.toNatClampNeg (x4 + 1))), .int (xs (Int32.toNatClampNeg (x4 + 2))), .ref q19]) (st := []) (gr := [wHouse E a2 v2, wHist E a3 (rf2 q4 (a5 0)) v3, wHs E q4 ah4 v4, wHouse E a5 v5, wSight E a6 v6, wSight E a7 v7, wBest E a8 (rf2 (a9 0) (a10 0)) v8, wHouse E a9 v9, wSight E a10 v10, wIntr E a11 v11, wToks E a12 v12, wHRead E a13 (rf1 (a12 0)), wQRead E a14 (rf3 (a12 0) q15 q16) v14, wArr E q15 12 v15, wArr E q16 12 v16, wModel E a17 (rf2 (a17 1) q18) v17, wNm E q18]) (c_L_door (E := E) (a0 := a0) (h0_1 := a2 0) (h0_2 := a3 0) (h0_3 := a6 0) (h0_4 := a7 0) (h0_5 := a8 0) (h0_6 := a11 0) (h0_7 := a12 0) (h0_8 := a13 0) (h0_9 := a14 0) (a1 := a1) (q2 := q19) hp428) gL_law_L_door rfl ysk_L_door ⟨by decide, by decide⟩ ⟨by show c + 2 ≤ 601024; omega, by show s + 12 ≤ 7293034; omega⟩ [0, 1, 19] [2, 3, 4, 5, 6, 7, 8, 9, 10, 11, 12, 13, 14, 15, 16, 17, 18] 20 rfl (by decide) rfl rfl (Nat.le_of_ble_eq_true rfl) dL_law_428 ?_
  rintro _ _ ⟨rfl, rfl⟩
  refine ww_perm (gs' := [wGW E a0 (rf10 (a1 0) (a2 0) (a3 0) (a6 0) (a7 0) (a8 0) (a11 0) (a12 0) (a13 0) (a14 0)) v0, wHouse E a1 v1, wHouse E a2 v2, wHist E a3 (rf2 q4 (a5 0)) v3, wHs E q4 ah4 v4, wHouse E a5 v5, wSight E a6 v6, wSight E a7 v7, wBest E a8 (rf2 (a9 0) (a10 0)) v8, wHouse E a9 v9, wSight E a10 v10, wIntr E a11 v11, wToks E a12 v12, wHRead E a13 (rf1 (a12 0)), wQRead E a14 (rf3 (a12 0) q15 q16) v14, wArr E q15 12 v15, wArr E q16 12 v16, wModel E a17 (rf2 (a17 1) q18) v17, wNm E q18, wLon E q19 p428.2]) [0, 1, 3, 4, 5, 6, 7, 8, 9, 10, 11, 12, 13, 14, 15, 16, 17, 18, 19, 2] 20 rfl (by decide) rfl ?_
  refine ww_istore (lv' := [(5, .int p428.1), (0, .ref bS), (1, .ref (a0 0)), (2, .ref (a17 0)), (3, .ref q19), (4, .int x4)]) C dL_law_431 (by decide) rfl ?_
  refine ww_aload_n C dL_law_433 rfl 3 rfl ?_
  refine ww_aload_n C dL_law_434 rfl 1 rfl ?_
  refine ww_iload C dL_law_435 5 rfl ?_
  refine ww_iconst (v := 1) C dL_law_437 (by decide) ?_
  refine ww_iadd C dL_law_438 ?_
  refine ww_sld C S0 (inB_vp g_158) dL_law_439 ?_
  refine ww_aload_n C dL_law_440 rfl 1 rfl ?_
  refine ww_iload C dL_law_441 5 rfl ?_
  refine ww_iconst (v := 2) C dL_law_443 (by decide) ?_
  refine ww_iadd C dL_law_444 ?_
  refine ww_sld C S0 (inB_vp g_159) dL_law_445 ?_
  obtain ⟨p446, hp446, hf⟩ := bdE hf
  refine ww_callV C (As := [.int (xs (Int32.toNatClampNeg (x4 + 1))), .int (xs (Int32.toNatClampNeg (x4 + 2)))]) (st := []) (gr := [wGW E a0 (rf10 (a1 0) (a2 0) (a3 0) (a6 0) (a7 0) (a8 0) (a11 0) (a12 0) (a13 0) (a14 0)) v0, wHouse E a1 v1, wHouse E a2 v2, wHist E a3 (rf2 q4 (a5 0)) v3, wHs E q4 ah4 v4, wHouse E a5 v5, wSight E a6 v6, wSight E a7 v7, wBest E a8 (rf2 (a9 0) (a10 0)) v8, wHouse E a9 v9, wSight E a10 v10, wIntr E a11 v11, wToks E a12 v12, wHRead E a13 (rf1 (a12 0)), wQRead E a14 (rf3 (a12 0) q15 q16) v14, wArr E q15 12 v15, wArr E q16 12 v16, wNm E q18, wLon E q19 p428.2]) (c_X9_door (E := E) (a0 := a17) (h0_1 := q18) hp446) gL_law_X9_door rfl yk_X9_door ⟨by decide, by decide⟩ ⟨by show c + 2 + 0 ≤ 601024; omega, by show s + 12 + 0 ≤ 7293034; omega⟩ clOK9 0 0 rfl rfl [17] [0, 1, 2, 3, 4, 5, 6, 7, 8, 9, 10, 11, 12, 13, 14, 15, 16, 18, 19] 20 rfl (by decide) rfl rfl (Nat.le_of_ble_eq_true rfl) dL_law_446 ?_
  rintro _ _ ⟨rfl, rfl⟩
  refine ww_perm (gs' := [wGW E a0 (rf10 (a1 0) (a2 0) (a3 0) (a6 0) (a7 0) (a8 0) (a11 0) (a12 0) (a13 0) (a14 0)) v0, wHouse E a1 v1, wHouse E a2 v2, wHist E a3 (rf2 q4 (a5 0)) v3, wHs E q4 ah4 v4, wHouse E a5 v5, wSight E a6 v6, wSight E a7 v7, wBest E a8 (rf2 (a9 0) (a10 0)) v8, wHouse E a9 v9, wSight E a10 v10, wIntr E a11 v11, wToks E a12 v12, wHRead E a13 (rf1 (a12 0)), wQRead E a14 (rf3 (a12 0) q15 q16) v14, wArr E q15 12 v15, wArr E q16 12 v16, wModel E a17 (rf2 (a17 1) q18) p446.2, wNm E q18, wLon E q19 p428.2]) [1, 2, 3, 4, 5, 6, 7, 8, 9, 10, 11, 12, 13, 14, 15, 16, 17, 0, 18, 19] 20 rfl (by decide) rfl ?_
  refine ww_istore (lv' := [(6, .int p446.1), (5, .int p428.1), (0, .ref bS), (1, .ref (a0 0)), (2, .ref (a17 0)), (3, .ref q19), (4, .int x4)]) C dL_law_449 (by decide) rfl ?_
  refine ww_aload_n C dL_law_451 rfl 4 rfl ?_
  obtain ⟨p452, hp452, hf⟩ := bdE hf
  refine ww_callV C (As := []) (st := []) (gr := [wGW E a0 (rf10 (a1 0) (a2 0) (a3 0) (a6 0) (a7 0) (a8 0) (a11 0) (a12 0) (a13 0) (a14 0)) v0, wHouse E a1 v1, wHouse E a2 v2, wHist E a3 (rf2 q4 (a5 0)) v3, wHs E q4 ah4 v4, wHouse E a5 v5, wSight E a6 v6, wSight E a7 v7, wBest E a8 (rf2 (a9 0) (a10 0)) v8, wHouse E a9 v9, wSight E a10 v10, wIntr E a11 v11, wToks E a12 v12, wHRead E a13 (rf1 (a12 0)), wQRead E a14 (rf3 (a12 0) q15 q16) v14, wArr E q15 12 v15, wArr E q16 12 v16, wNm E q18, wLon E q19 p428.2]) (c_X9_thrown (E := E) (a0 := a17) (h0_0 := a17 1) (h0_1 := q18) hp452) gL_law_X9_thrown rfl yk_X9_thrown ⟨by decide, by decide⟩ ⟨by show c + 2 + 0 + 0 ≤ 601024; omega, by show s + 12 + 0 + 0 ≤ 7293034; omega⟩ clOK9 0 0 rfl rfl [17] [0, 1, 2, 3, 4, 5, 6, 7, 8, 9, 10, 11, 12, 13, 14, 15, 16, 18, 19] 20 rfl (by decide) rfl rfl (Nat.le_of_ble_eq_true rfl) dL_law_452 ?_
  rintro _ _ ⟨rfl, rfl⟩
  refine ww_perm (gs' := [wGW E a0 (rf10 (a1 0) (a2 0) (a3 0) (a6 0) (a7 0) (a8 0) (a11 0) (a12 0) (a13 0) (a14 0)) v0, wHouse E a1 v1, wHouse E a2 v2, wHist E a3 (rf2 q4 (a5 0)) v3, wHs E q4 ah4 v4, wHouse E a5 v5, wSight E a6 v6, wSight E a7 v7, wBest E a8 (rf2 (a9 0) (a10 0)) v8, wHouse E a9 v9, wSight E a10 v10, wIntr E a11 v11, wToks E a12 v12, wHRead E a13 (rf1 (a12 0)), wQRead E a14 (rf3 (a12 0) q15 q16) v14, wArr E q15 12 v15, wArr E q16 12 v16, wModel E a17 (rf2 (a17 1) q18) p446.2, wNm E q18, wLon E q19 p428.2]) [1, 2, 3, 4, 5, 6, 7, 8, 9, 10, 11, 12, 13, 14, 15, 16, 17, 0, 18, 19] 20 rfl (by decide) rfl ?_
  refine ww_iload C dL_law_455 1 rfl ?_
  refine ww_icmp_eq (tgt := 462) C dL_law_457 (by decide) (fun c_160 => ?_) (fun c_160 => ?_)
  · replace hf := ifT c_160 hf
    refine ww_iload C dL_law_462 1 rfl ?_
    refine ww_if_ne (tgt := 479) C dL_law_464 (by decide) (fun c_161 => ?_) (fun c_161 => ?_)
    · replace hf := ifF c_161 hf
      refine ww_goto (tgt := 2229) C dL_law_479 (by decide) ?_
      obtain ⟨x4_2229, e_x4_2229⟩ : ∃ y : Int32, y = x4 + 6 := ⟨_, rfl⟩
      replace hf := ltE e_x4_2229 hf
      refine ww_iinc (v := x4_2229) (lv' := [(4, .int x4_2229), (6, .int p446.1), (5, .int p428.1), (0, .ref bS), (1, .ref (a0 0)), (2, .ref (a17 0)), (3, .ref q19)]) C dL_law_2229 6 rfl (by rw [e_x4_2229]; rfl) (by decide) rfl ?_
      refine ww_goto (tgt := 23) C dL_law_2232 (by decide) ?_
      refine ww_sub C (lv' := [(0, .ref bS), (1, .ref (a0 0)), (2, .ref (a17 0)), (3, .ref q19), (4, .int x4_2229)]) [3, 4, 5, 6, 0] rfl ?_
      refine ww_widen (k := c + 3) (n := s + 18) (by show c + 2 + 0 + 0 ≤ c + 3; omega) (by show s + 12 + 0 + 0 ≤ s + 18; omega) ?_
      exact hk23 _ _ _ _ _ _ _ _ _ _ _ _ _ _ _ _ _ _ _ hf
    · replace hf := ifT c_161 hf
      refine ww_aload_n C dL_law_467 rfl 5 rfl ?_
      refine ww_iconst (v := 0) C dL_law_468 (by decide) ?_
      obtain ⟨g_162, hf⟩ := gdE hf
      refine ww_lald C (f := p428.2) (w := wLon E q19 p428.2) 19 0 rfl q_Lon (inB_vp g_162) dL_law_469 ?_
      refine ww_iload C dL_law_470 0 rfl ?_
      refine ww_i2l C dL_law_472 ?_
      refine ww_lcmp C dL_law_473 ?_
      refine ww_if_eq (tgt := 479) C dL_law_474 (by decide) (fun c_163 => ?_) (fun c_163 => ?_)
      · replace hf := ifT c_163 hf
        refine ww_goto (tgt := 2229) C dL_law_479 (by decide) ?_
        obtain ⟨x4_2229, e_x4_2229⟩ : ∃ y : Int32, y = x4 + 6 := ⟨_, rfl⟩
        replace hf := ltE e_x4_2229 hf
        refine ww_iinc (v := x4_2229) (lv' := [(4, .int x4_2229), (6, .int p446.1), (5, .int p428.1), (0, .ref bS), (1, .ref (a0 0)), (2, .ref (a17 0)), (3, .ref q19)]) C dL_law_2229 6 rfl (by rw [e_x4_2229]; rfl) (by decide) rfl ?_
        refine ww_goto (tgt := 23) C dL_law_2232 (by decide) ?_
        refine ww_sub C (lv' := [(0, .ref bS), (1, .ref (a0 0)), (2, .ref (a17 0)), (3, .ref q19), (4, .int x4_2229)]) [3, 4, 5, 6, 0] rfl ?_
        refine ww_widen (k := c + 3) (n := s + 18) (by show c + 2 + 0 + 0 ≤ c + 3; omega) (by show s + 12 + 0 + 0 ≤ s + 18; omega) ?_
        exact hk23 _ _ _ _ _ _ _ _ _ _ _ _ _ _ _ _ _ _ _ hf
      · replace hf := ifF c_163 hf
        refine ww_iconst (v := 0) C dL_law_477 (by decide) ?_
        cases hf
  · replace hf := ifF c_160 hf
    refine ww_iconst (v := 0) C dL_law_460 (by decide) ?_
    cases hf

set_option maxHeartbeats 8000000 in
set_option maxRecDepth 100000 in
theorem w_L_law_482 {E : Ex} {K : Kx} (C : Cx E K cL_law 9 (some .boolean) RL wsL_law rmL_law) {a0 : Nat → Nat} {a1 : Nat → Nat} {a2 : Nat → Nat} {a3 : Nat → Nat} {q4 : Nat} {ah4 : Nat → Nat → Nat} {a5 : Nat → Nat} {a6 : Nat → Nat} {a7 : Nat → Nat} {a8 : Nat → Nat} {a9 : Nat → Nat} {a10 : Nat → Nat} {a11 : Nat → Nat} {a12 : Nat → Nat} {a13 : Nat → Nat} {a14 : Nat → Nat} {q15 : Nat} {q16 : Nat} {a17 : Nat → Nat} {q18 : Nat} {q19 : Nat} {bS L : Nat} {xs : Nat → Int32} {Q : State → Prop} (T0 : TL E K) (S0 : SX bS L xs K) (HR : ∀ (c s : Nat) (lv : List (Nat × Value)) (gs : List va_W), c ≤ 601024 → s ≤ 7293034 → WW E K c s Q 2236 lv [.int 1] gs) {c s : Nat} (hc : c + 3 ≤ 601024) (hs : s + 18 ≤ 7293034) {k23 : Int32 → GWV → HouseV → HouseV → HistV → (Nat → HouseV) → HouseV → SightV → SightV → BestV → HouseV → SightV → IntrV → ToksV → QReadV → (Nat → Int32) → (Nat → Int32) → ModelV → (Nat → Int64) → Option Unit} (hk23 : ∀ (x4 : Int32) (v0 : GWV) (v1 : HouseV) (v2 : HouseV) (v3 : HistV) (v4 : Nat → HouseV) (v5 : HouseV) (v6 : SightV) (v7 : SightV) (v8 : BestV) (v9 : HouseV) (v10 : SightV) (v11 : IntrV) (v12 : ToksV) (v14 : QReadV) (v15 : Nat → Int32) (v16 : Nat → Int32) (v17 : ModelV) (v19 : Nat → Int64), k23 x4 v0 v1 v2 v3 v4 v5 v6 v7 v8 v9 v10 v11 v12 v14 v15 v16 v17 v19 = some () → WW E K (c + 3) (s + 18) Q 23 [(0, .ref bS), (1, .ref (a0 0)), (2, .ref (a17 0)), (3, .ref q19), (4, .int x4)] [] [wGW E a0 (rf10 (a1 0) (a2 0) (a3 0) (a6 0) (a7 0) (a8 0) (a11 0) (a12 0) (a13 0) (a14 0)) v0, wHouse E a1 v1, wHouse E a2 v2, wHist E a3 (rf2 q4 (a5 0)) v3, wHs E q4 ah4 v4, wHouse E a5 v5, wSight E a6 v6, wSight E a7 v7, wBest E a8 (rf2 (a9 0) (a10 0)) v8, wHouse E a9 v9, wSight E a10 v10, wIntr E a11 v11, wToks E a12 v12, wHRead E a13 (rf1 (a12 0)), wQRead E a14 (rf3 (a12 0) q15 q16) v14, wArr E q15 12 v15, wArr E q16 12 v16, wModel E a17 (rf2 (a17 1) q18) v17, wNm E q18, wLon E q19 v19]) {x4 : Int32} {v0 : GWV} {v1 : HouseV} {v2 : HouseV} {v3 : HistV} {v4 : Nat → HouseV} {v5 : HouseV} {v6 : SightV} {v7 : SightV} {v8 : BestV} {v9 : HouseV} {v10 : SightV} {v11 : IntrV} {v12 : ToksV} {v14 : QReadV} {v15 : Nat → Int32} {v16 : Nat → Int32} {v17 : ModelV} {v19 : Nat → Int64} (hf : Law_482 L xs k23 x4 v0 v1 v2 v3 v4 v5 v6 v7 v8 v9 v10 v11 v12 v14 v15 v16 v17 v19 = some ()) : WW E K c s Q 482 [(0, .ref bS), (1, .ref (a0 0)), (2, .ref (a17 0)), (3, .ref q19), (4, .int x4)] [] [wGW E a0 (rf10 (a1 0) (a2 0) (a3 0) (a6 0) (a7 0) (a8 0) (a11 0) (a12 0) (a13 0) (a14 0)) v0, wHouse E a1 v1, wHouse E a2 v2, wHist E a3 (rf2 q4 (a5 0)) v3, wHs E q4 ah4 v4, wHouse E a5 v5, wSight E a6 v6, wSight E a7 v7, wBest E a8 (rf2 (a9 0) (a10 0)) v8, wHouse E a9 v9, wSight E a10 v10, wIntr E a11 v11, wToks E a12 v12, wHRead E a13 (rf1 (a12 0)), wQRead E a14 (rf3 (a12 0) q15 q16) v14, wArr E q15 12 v15, wArr E q16 12 v16, wModel E a17 (rf2 (a17 1) q18) v17, wNm E q18, wLon E q19 v19] := by
  rw [Law_482] at hf
  refine ww_aload_n C dL_law_482 rfl 1 rfl ?_
  refine ww_aload_n C dL_law_483 rfl 0 rfl ?_
  refine ww_iload C dL_law_484 4 rfl ?_
  refine ww_iconst (v := 1) C dL_law_486 (by decide) ?_
  refine ww_iadd C dL_law_487 ?_
  obtain ⟨g_152, hf⟩ := gdE hf
  refine ww_sld C S0 (inB_vp g_152) dL_law_488 ?_
  refine ww_aload_n C dL_law_489 rfl 0 rfl ?_
  refine ww_iload C dL_law_490 4 rfl ?_
  refine ww_iconst (v := 2) C dL_law_492 (by decide) ?_
  refine ww_iadd C dL_law_493 ?_
  obtain ⟨g_153, hf⟩ := gdE hf
  refine ww_sld C S0 (inB_vp g_153) dL_law_494 ?_
  refine ww_aload_n C dL_law_495 rfl 3 rfl ?_
  obtain ⟨p496, hp496, hf⟩ := bdE hf
  refine ww_callSL C T0 (As := [.ref (a0 0), .int (xs (Int32.toNatClampNeg (x4 + 1))), .int (xs (Int32.toNatClampNeg (x4 + 2))), .ref q19]) (st := []) (gr := [wHouse E a2 v2, wHist E a3 (rf2 q4 (a5 0)) v3, wHs E q4 ah4 v4, wHouse E a5 v5, wSight E a7 v7, wBest E a8 (rf2 (a9 0) (a10 0)) v8, wHouse E a9 v9, wSight E a10 v10, wIntr E a11 v11, wToks E a12 v12, wHRead E a13 (rf1 (a12 0)), wQRead E a14 (rf3 (a12 0) q15 q16) v14, wArr E q15 12 v15, wArr E q16 12 v16, wModel E a17 (rf2 (a17 1) q18) v17, wNm E q18]) (c_L_room (E := E) (a0 := a0) (h0_1 := a2 0) (h0_2 := a3 0) (h0_4 := a7 0) (h0_5 := a8 0) (h0_6 := a11 0) (h0_7 := a12 0) (h0_8 := a13 0) (h0_9 := a14 0) (a1 := a1) (a2 := a6) (q3 := q19) hp496) gL_law_L_room rfl ysk_L_room ⟨by decide, by decide⟩ ⟨by show c + 2 ≤ 601024; omega, by show s + 12 ≤ 7293034; omega⟩ [0, 1, 6, 19] [2, 3, 4, 5, 7, 8, 9, 10, 11, 12, 13, 14, 15, 16, 17, 18] 20 rfl (by decide) rfl rfl (Nat.le_of_ble_eq_true rfl) dL_law_496 ?_
  rintro _ _ ⟨rfl, rfl⟩
  refine ww_perm (gs' := [wGW E a0 (rf10 (a1 0) (a2 0) (a3 0) (a6 0) (a7 0) (a8 0) (a11 0) (a12 0) (a13 0) (a14 0)) v0, wHouse E a1 v1, wHouse E a2 v2, wHist E a3 (rf2 q4 (a5 0)) v3, wHs E q4 ah4 v4, wHouse E a5 v5, wSight E a6 p496.2.1, wSight E a7 v7, wBest E a8 (rf2 (a9 0) (a10 0)) v8, wHouse E a9 v9, wSight E a10 v10, wIntr E a11 v11, wToks E a12 v12, wHRead E a13 (rf1 (a12 0)), wQRead E a14 (rf3 (a12 0) q15 q16) v14, wArr E q15 12 v15, wArr E q16 12 v16, wModel E a17 (rf2 (a17 1) q18) v17, wNm E q18, wLon E q19 p496.2.2]) [0, 1, 4, 5, 6, 7, 2, 8, 9, 10, 11, 12, 13, 14, 15, 16, 17, 18, 19, 3] 20 rfl (by decide) rfl ?_
  refine ww_istore (lv' := [(5, .int p496.1), (0, .ref bS), (1, .ref (a0 0)), (2, .ref (a17 0)), (3, .ref q19), (4, .int x4)]) C dL_law_499 (by decide) rfl ?_
  refine ww_aload_n C dL_law_501 rfl 3 rfl ?_
  refine ww_aload_n C dL_law_502 rfl 1 rfl ?_
  refine ww_iload C dL_law_503 5 rfl ?_
  refine ww_iconst (v := 1) C dL_law_505 (by decide) ?_
  refine ww_iadd C dL_law_506 ?_
  refine ww_sld C S0 (inB_vp g_152) dL_law_507 ?_
  refine ww_aload_n C dL_law_508 rfl 1 rfl ?_
  refine ww_iload C dL_law_509 5 rfl ?_
  refine ww_iconst (v := 2) C dL_law_511 (by decide) ?_
  refine ww_iadd C dL_law_512 ?_
  refine ww_sld C S0 (inB_vp g_153) dL_law_513 ?_
  obtain ⟨p514, hp514, hf⟩ := bdE hf
  refine ww_callV C (As := [.int (xs (Int32.toNatClampNeg (x4 + 1))), .int (xs (Int32.toNatClampNeg (x4 + 2)))]) (st := []) (gr := [wGW E a0 (rf10 (a1 0) (a2 0) (a3 0) (a6 0) (a7 0) (a8 0) (a11 0) (a12 0) (a13 0) (a14 0)) v0, wHouse E a1 v1, wHouse E a2 v2, wHist E a3 (rf2 q4 (a5 0)) v3, wHs E q4 ah4 v4, wHouse E a5 v5, wSight E a6 p496.2.1, wSight E a7 v7, wBest E a8 (rf2 (a9 0) (a10 0)) v8, wHouse E a9 v9, wSight E a10 v10, wIntr E a11 v11, wToks E a12 v12, wHRead E a13 (rf1 (a12 0)), wQRead E a14 (rf3 (a12 0) q15 q16) v14, wArr E q15 12 v15, wArr E q16 12 v16, wNm E q18, wLon E q19 p496.2.2]) (c_X9_room (E := E) (a0 := a17) (h0_1 := q18) hp514) gL_law_X9_room rfl yk_X9_room ⟨by decide, by decide⟩ ⟨by show c + 2 + 0 ≤ 601024; omega, by show s + 12 + 0 ≤ 7293034; omega⟩ clOK9 0 0 rfl rfl [17] [0, 1, 2, 3, 4, 5, 6, 7, 8, 9, 10, 11, 12, 13, 14, 15, 16, 18, 19] 20 rfl (by decide) rfl rfl (Nat.le_of_ble_eq_true rfl) dL_law_514 ?_
  rintro _ _ ⟨rfl, rfl⟩
  refine ww_perm (gs' := [wGW E a0 (rf10 (a1 0) (a2 0) (a3 0) (a6 0) (a7 0) (a8 0) (a11 0) (a12 0) (a13 0) (a14 0)) v0, wHouse E a1 v1, wHouse E a2 v2, wHist E a3 (rf2 q4 (a5 0)) v3, wHs E q4 ah4 v4, wHouse E a5 v5, wSight E a6 p496.2.1, wSight E a7 v7, wBest E a8 (rf2 (a9 0) (a10 0)) v8, wHouse E a9 v9, wSight E a10 v10, wIntr E a11 v11, wToks E a12 v12, wHRead E a13 (rf1 (a12 0)), wQRead E a14 (rf3 (a12 0) q15 q16) v14, wArr E q15 12 v15, wArr E q16 12 v16, wModel E a17 (rf2 (a17 1) q18) p514.2, wNm E q18, wLon E q19 p496.2.2]) [1, 2, 3, 4, 5, 6, 7, 8, 9, 10, 11, 12, 13, 14, 15, 16, 17, 0, 18, 19] 20 rfl (by decide) rfl ?_
  refine ww_istore (lv' := [(6, .int p514.1), (5, .int p496.1), (0, .ref bS), (1, .ref (a0 0)), (2, .ref (a17 0)), (3, .ref q19), (4, .int x4)]) C dL_law_517 (by decide) rfl ?_
  refine ww_aload_n C dL_law_519 rfl 4 rfl ?_
  obtain ⟨p520, hp520, hf⟩ := bdE hf
  refine ww_callV C (As := []) (st := []) (gr := [wGW E a0 (rf10 (a1 0) (a2 0) (a3 0) (a6 0) (a7 0) (a8 0) (a11 0) (a12 0) (a13 0) (a14 0)) v0, wHouse E a1 v1, wHouse E a2 v2, wHist E a3 (rf2 q4 (a5 0)) v3, wHs E q4 ah4 v4, wHouse E a5 v5, wSight E a6 p496.2.1, wSight E a7 v7, wBest E a8 (rf2 (a9 0) (a10 0)) v8, wHouse E a9 v9, wSight E a10 v10, wIntr E a11 v11, wToks E a12 v12, wHRead E a13 (rf1 (a12 0)), wQRead E a14 (rf3 (a12 0) q15 q16) v14, wArr E q15 12 v15, wArr E q16 12 v16, wNm E q18, wLon E q19 p496.2.2]) (c_X9_thrown (E := E) (a0 := a17) (h0_0 := a17 1) (h0_1 := q18) hp520) gL_law_X9_thrown rfl yk_X9_thrown ⟨by decide, by decide⟩ ⟨by show c + 2 + 0 + 0 ≤ 601024; omega, by show s + 12 + 0 + 0 ≤ 7293034; omega⟩ clOK9 0 0 rfl rfl [17] [0, 1, 2, 3, 4, 5, 6, 7, 8, 9, 10, 11, 12, 13, 14, 15, 16, 18, 19] 20 rfl (by decide) rfl rfl (Nat.le_of_ble_eq_true rfl) dL_law_520 ?_
  rintro _ _ ⟨rfl, rfl⟩
  refine ww_perm (gs' := [wGW E a0 (rf10 (a1 0) (a2 0) (a3 0) (a6 0) (a7 0) (a8 0) (a11 0) (a12 0) (a13 0) (a14 0)) v0, wHouse E a1 v1, wHouse E a2 v2, wHist E a3 (rf2 q4 (a5 0)) v3, wHs E q4 ah4 v4, wHouse E a5 v5, wSight E a6 p496.2.1, wSight E a7 v7, wBest E a8 (rf2 (a9 0) (a10 0)) v8, wHouse E a9 v9, wSight E a10 v10, wIntr E a11 v11, wToks E a12 v12, wHRead E a13 (rf1 (a12 0)), wQRead E a14 (rf3 (a12 0) q15 q16) v14, wArr E q15 12 v15, wArr E q16 12 v16, wModel E a17 (rf2 (a17 1) q18) p514.2, wNm E q18, wLon E q19 p496.2.2]) [1, 2, 3, 4, 5, 6, 7, 8, 9, 10, 11, 12, 13, 14, 15, 16, 17, 0, 18, 19] 20 rfl (by decide) rfl ?_
  refine ww_iload C dL_law_523 1 rfl ?_
  refine ww_icmp_eq (tgt := 530) C dL_law_525 (by decide) (fun c_154 => ?_) (fun c_154 => ?_)
  · replace hf := ifT c_154 hf
    refine ww_iload C dL_law_530 1 rfl ?_
    refine ww_if_ne (tgt := 547) C dL_law_532 (by decide) (fun c_155 => ?_) (fun c_155 => ?_)
    · replace hf := ifF c_155 hf
      refine ww_goto (tgt := 2229) C dL_law_547 (by decide) ?_
      obtain ⟨x4_2229, e_x4_2229⟩ : ∃ y : Int32, y = x4 + 6 := ⟨_, rfl⟩
      replace hf := ltE e_x4_2229 hf
      refine ww_iinc (v := x4_2229) (lv' := [(4, .int x4_2229), (6, .int p514.1), (5, .int p496.1), (0, .ref bS), (1, .ref (a0 0)), (2, .ref (a17 0)), (3, .ref q19)]) C dL_law_2229 6 rfl (by rw [e_x4_2229]; rfl) (by decide) rfl ?_
      refine ww_goto (tgt := 23) C dL_law_2232 (by decide) ?_
      refine ww_sub C (lv' := [(0, .ref bS), (1, .ref (a0 0)), (2, .ref (a17 0)), (3, .ref q19), (4, .int x4_2229)]) [3, 4, 5, 6, 0] rfl ?_
      refine ww_widen (k := c + 3) (n := s + 18) (by show c + 2 + 0 + 0 ≤ c + 3; omega) (by show s + 12 + 0 + 0 ≤ s + 18; omega) ?_
      exact hk23 _ _ _ _ _ _ _ _ _ _ _ _ _ _ _ _ _ _ _ hf
    · replace hf := ifT c_155 hf
      refine ww_aload_n C dL_law_535 rfl 5 rfl ?_
      refine ww_iconst (v := 0) C dL_law_536 (by decide) ?_
      obtain ⟨g_156, hf⟩ := gdE hf
      refine ww_lald C (f := p496.2.2) (w := wLon E q19 p496.2.2) 19 0 rfl q_Lon (inB_vp g_156) dL_law_537 ?_
      refine ww_iload C dL_law_538 0 rfl ?_
      refine ww_i2l C dL_law_540 ?_
      refine ww_lcmp C dL_law_541 ?_
      refine ww_if_eq (tgt := 547) C dL_law_542 (by decide) (fun c_157 => ?_) (fun c_157 => ?_)
      · replace hf := ifT c_157 hf
        refine ww_goto (tgt := 2229) C dL_law_547 (by decide) ?_
        obtain ⟨x4_2229, e_x4_2229⟩ : ∃ y : Int32, y = x4 + 6 := ⟨_, rfl⟩
        replace hf := ltE e_x4_2229 hf
        refine ww_iinc (v := x4_2229) (lv' := [(4, .int x4_2229), (6, .int p514.1), (5, .int p496.1), (0, .ref bS), (1, .ref (a0 0)), (2, .ref (a17 0)), (3, .ref q19)]) C dL_law_2229 6 rfl (by rw [e_x4_2229]; rfl) (by decide) rfl ?_
        refine ww_goto (tgt := 23) C dL_law_2232 (by decide) ?_
        refine ww_sub C (lv' := [(0, .ref bS), (1, .ref (a0 0)), (2, .ref (a17 0)), (3, .ref q19), (4, .int x4_2229)]) [3, 4, 5, 6, 0] rfl ?_
        refine ww_widen (k := c + 3) (n := s + 18) (by show c + 2 + 0 + 0 ≤ c + 3; omega) (by show s + 12 + 0 + 0 ≤ s + 18; omega) ?_
        exact hk23 _ _ _ _ _ _ _ _ _ _ _ _ _ _ _ _ _ _ _ hf
      · replace hf := ifF c_157 hf
        refine ww_iconst (v := 0) C dL_law_545 (by decide) ?_
        cases hf
  · replace hf := ifF c_154 hf
    refine ww_iconst (v := 0) C dL_law_528 (by decide) ?_
    cases hf

set_option maxHeartbeats 8000000 in
set_option maxRecDepth 100000 in
theorem w_L_law_550 {E : Ex} {K : Kx} (C : Cx E K cL_law 9 (some .boolean) RL wsL_law rmL_law) {a0 : Nat → Nat} {a1 : Nat → Nat} {a2 : Nat → Nat} {a3 : Nat → Nat} {q4 : Nat} {ah4 : Nat → Nat → Nat} {a5 : Nat → Nat} {a6 : Nat → Nat} {a7 : Nat → Nat} {a8 : Nat → Nat} {a9 : Nat → Nat} {a10 : Nat → Nat} {a11 : Nat → Nat} {a12 : Nat → Nat} {a13 : Nat → Nat} {a14 : Nat → Nat} {q15 : Nat} {q16 : Nat} {a17 : Nat → Nat} {q18 : Nat} {q19 : Nat} {bS L : Nat} {xs : Nat → Int32} {Q : State → Prop} (T0 : TL E K) (S0 : SX bS L xs K) (HR : ∀ (c s : Nat) (lv : List (Nat × Value)) (gs : List va_W), c ≤ 601024 → s ≤ 7293034 → WW E K c s Q 2236 lv [.int 1] gs) {c s : Nat} (hc : c + 3 ≤ 601024) (hs : s + 18 ≤ 7293034) {k23 : Int32 → GWV → HouseV → HouseV → HistV → (Nat → HouseV) → HouseV → SightV → SightV → BestV → HouseV → SightV → IntrV → ToksV → QReadV → (Nat → Int32) → (Nat → Int32) → ModelV → (Nat → Int64) → Option Unit} (hk23 : ∀ (x4 : Int32) (v0 : GWV) (v1 : HouseV) (v2 : HouseV) (v3 : HistV) (v4 : Nat → HouseV) (v5 : HouseV) (v6 : SightV) (v7 : SightV) (v8 : BestV) (v9 : HouseV) (v10 : SightV) (v11 : IntrV) (v12 : ToksV) (v14 : QReadV) (v15 : Nat → Int32) (v16 : Nat → Int32) (v17 : ModelV) (v19 : Nat → Int64), k23 x4 v0 v1 v2 v3 v4 v5 v6 v7 v8 v9 v10 v11 v12 v14 v15 v16 v17 v19 = some () → WW E K (c + 3) (s + 18) Q 23 [(0, .ref bS), (1, .ref (a0 0)), (2, .ref (a17 0)), (3, .ref q19), (4, .int x4)] [] [wGW E a0 (rf10 (a1 0) (a2 0) (a3 0) (a6 0) (a7 0) (a8 0) (a11 0) (a12 0) (a13 0) (a14 0)) v0, wHouse E a1 v1, wHouse E a2 v2, wHist E a3 (rf2 q4 (a5 0)) v3, wHs E q4 ah4 v4, wHouse E a5 v5, wSight E a6 v6, wSight E a7 v7, wBest E a8 (rf2 (a9 0) (a10 0)) v8, wHouse E a9 v9, wSight E a10 v10, wIntr E a11 v11, wToks E a12 v12, wHRead E a13 (rf1 (a12 0)), wQRead E a14 (rf3 (a12 0) q15 q16) v14, wArr E q15 12 v15, wArr E q16 12 v16, wModel E a17 (rf2 (a17 1) q18) v17, wNm E q18, wLon E q19 v19]) {x4 : Int32} {v0 : GWV} {v1 : HouseV} {v2 : HouseV} {v3 : HistV} {v4 : Nat → HouseV} {v5 : HouseV} {v6 : SightV} {v7 : SightV} {v8 : BestV} {v9 : HouseV} {v10 : SightV} {v11 : IntrV} {v12 : ToksV} {v14 : QReadV} {v15 : Nat → Int32} {v16 : Nat → Int32} {v17 : ModelV} {v19 : Nat → Int64} (hf : Law_550 L xs k23 x4 v0 v1 v2 v3 v4 v5 v6 v7 v8 v9 v10 v11 v12 v14 v15 v16 v17 v19 = some ()) : WW E K c s Q 550 [(0, .ref bS), (1, .ref (a0 0)), (2, .ref (a17 0)), (3, .ref q19), (4, .int x4)] [] [wGW E a0 (rf10 (a1 0) (a2 0) (a3 0) (a6 0) (a7 0) (a8 0) (a11 0) (a12 0) (a13 0) (a14 0)) v0, wHouse E a1 v1, wHouse E a2 v2, wHist E a3 (rf2 q4 (a5 0)) v3, wHs E q4 ah4 v4, wHouse E a5 v5, wSight E a6 v6, wSight E a7 v7, wBest E a8 (rf2 (a9 0) (a10 0)) v8, wHouse E a9 v9, wSight E a10 v10, wIntr E a11 v11, wToks E a12 v12, wHRead E a13 (rf1 (a12 0)), wQRead E a14 (rf3 (a12 0) q15 q16) v14, wArr E q15 12 v15, wArr E q16 12 v16, wModel E a17 (rf2 (a17 1) q18) v17, wNm E q18, wLon E q19 v19] := by
  rw [Law_550] at hf
  refine ww_aload_n C dL_law_550 rfl 1 rfl ?_
  refine ww_aload_n C dL_law_551 rfl 0 rfl ?_
  refine ww_iload C dL_law_552 4 rfl ?_
  refine ww_iconst (v := 1) C dL_law_554 (by decide) ?_
  refine ww_iadd C dL_law_555 ?_
  obtain ⟨g_146, hf⟩ := gdE hf
  refine ww_sld C S0 (inB_vp g_146) dL_law_556 ?_
  refine ww_aload_n C dL_law_557 rfl 0 rfl ?_
  refine ww_iload C dL_law_558 4 rfl ?_
  refine ww_iconst (v := 2) C dL_law_560 (by decide) ?_
  refine ww_iadd C dL_law_561 ?_
  obtain ⟨g_147, hf⟩ := gdE hf
  refine ww_sld C S0 (inB_vp g_147) dL_law_562 ?_
  refine ww_aload_n C dL_law_563 rfl 3 rfl ?_
  obtain ⟨p564, hp564, hf⟩ := bdE hf
  refine ww_callSL C T0 (As := [.ref (a0 0), .int (xs (Int32.toNatClampNeg (x4 + 1))), .int (xs (Int32.toNatClampNeg (x4 + 2))), .ref q19]) (st := []) (gr := [wHouse E a2 v2, wHist E a3 (rf2 q4 (a5 0)) v3, wHs E q4 ah4 v4, wHouse E a5 v5, wSight E a6 v6, wSight E a7 v7, wBest E a8 (rf2 (a9 0) (a10 0)) v8, wHouse E a9 v9, wSight E a10 v10, wIntr E a11 v11, wToks E a12 v12, wHRead E a13 (rf1 (a12 0)), wQRead E a14 (rf3 (a12 0) q15 q16) v14, wArr E q15 12 v15, wArr E q16 12 v16, wModel E a17 (rf2 (a17 1) q18) v17, wNm E q18]) (c_L_guard (E := E) (a0 := a0) (h0_1 := a2 0) (h0_2 := a3 0) (h0_3 := a6 0) (h0_4 := a7 0) (h0_5 := a8 0) (h0_6 := a11 0) (h0_7 := a12 0) (h0_8 := a13 0) (h0_9 := a14 0) (a1 := a1) (q2 := q19) hp564) gL_law_L_guard rfl ysk_L_guard ⟨by decide, by decide⟩ ⟨by show c + 2 ≤ 601024; omega, by show s + 12 ≤ 7293034; omega⟩ [0, 1, 19] [2, 3, 4, 5, 6, 7, 8, 9, 10, 11, 12, 13, 14, 15, 16, 17, 18] 20 rfl (by decide) rfl rfl (Nat.le_of_ble_eq_true rfl) dL_law_564 ?_
  rintro _ _ ⟨rfl, rfl⟩
  refine ww_perm (gs' := [wGW E a0 (rf10 (a1 0) (a2 0) (a3 0) (a6 0) (a7 0) (a8 0) (a11 0) (a12 0) (a13 0) (a14 0)) v0, wHouse E a1 v1, wHouse E a2 v2, wHist E a3 (rf2 q4 (a5 0)) v3, wHs E q4 ah4 v4, wHouse E a5 v5, wSight E a6 v6, wSight E a7 v7, wBest E a8 (rf2 (a9 0) (a10 0)) v8, wHouse E a9 v9, wSight E a10 v10, wIntr E a11 v11, wToks E a12 v12, wHRead E a13 (rf1 (a12 0)), wQRead E a14 (rf3 (a12 0) q15 q16) v14, wArr E q15 12 v15, wArr E q16 12 v16, wModel E a17 (rf2 (a17 1) q18) v17, wNm E q18, wLon E q19 p564.2]) [0, 1, 3, 4, 5, 6, 7, 8, 9, 10, 11, 12, 13, 14, 15, 16, 17, 18, 19, 2] 20 rfl (by decide) rfl ?_
  refine ww_istore (lv' := [(5, .int p564.1), (0, .ref bS), (1, .ref (a0 0)), (2, .ref (a17 0)), (3, .ref q19), (4, .int x4)]) C dL_law_567 (by decide) rfl ?_
  refine ww_aload_n C dL_law_569 rfl 3 rfl ?_
  refine ww_aload_n C dL_law_570 rfl 1 rfl ?_
  refine ww_iload C dL_law_571 5 rfl ?_
  refine ww_iconst (v := 1) C dL_law_573 (by decide) ?_
  refine ww_iadd C dL_law_574 ?_
  refine ww_sld C S0 (inB_vp g_146) dL_law_575 ?_
  refine ww_aload_n C dL_law_576 rfl 1 rfl ?_
  refine ww_iload C dL_law_577 5 rfl ?_
  refine ww_iconst (v := 2) C dL_law_579 (by decide) ?_
  refine ww_iadd C dL_law_580 ?_
  refine ww_sld C S0 (inB_vp g_147) dL_law_581 ?_
  obtain ⟨p582, hp582, hf⟩ := bdE hf
  refine ww_callV C (As := [.int (xs (Int32.toNatClampNeg (x4 + 1))), .int (xs (Int32.toNatClampNeg (x4 + 2)))]) (st := []) (gr := [wGW E a0 (rf10 (a1 0) (a2 0) (a3 0) (a6 0) (a7 0) (a8 0) (a11 0) (a12 0) (a13 0) (a14 0)) v0, wHouse E a1 v1, wHouse E a2 v2, wHist E a3 (rf2 q4 (a5 0)) v3, wHs E q4 ah4 v4, wHouse E a5 v5, wSight E a6 v6, wSight E a7 v7, wBest E a8 (rf2 (a9 0) (a10 0)) v8, wHouse E a9 v9, wSight E a10 v10, wIntr E a11 v11, wToks E a12 v12, wHRead E a13 (rf1 (a12 0)), wQRead E a14 (rf3 (a12 0) q15 q16) v14, wArr E q15 12 v15, wArr E q16 12 v16, wNm E q18, wLon E q19 p564.2]) (c_X9_guard (E := E) (a0 := a17) (h0_1 := q18) hp582) gL_law_X9_guard rfl yk_X9_guard ⟨by decide, by decide⟩ ⟨by show c + 2 + 0 ≤ 601024; omega, by show s + 12 + 0 ≤ 7293034; omega⟩ clOK9 0 0 rfl rfl [17] [0, 1, 2, 3, 4, 5, 6, 7, 8, 9, 10, 11, 12, 13, 14, 15, 16, 18, 19] 20 rfl (by decide) rfl rfl (Nat.le_of_ble_eq_true rfl) dL_law_582 ?_
  rintro _ _ ⟨rfl, rfl⟩
  refine ww_perm (gs' := [wGW E a0 (rf10 (a1 0) (a2 0) (a3 0) (a6 0) (a7 0) (a8 0) (a11 0) (a12 0) (a13 0) (a14 0)) v0, wHouse E a1 v1, wHouse E a2 v2, wHist E a3 (rf2 q4 (a5 0)) v3, wHs E q4 ah4 v4, wHouse E a5 v5, wSight E a6 v6, wSight E a7 v7, wBest E a8 (rf2 (a9 0) (a10 0)) v8, wHouse E a9 v9, wSight E a10 v10, wIntr E a11 v11, wToks E a12 v12, wHRead E a13 (rf1 (a12 0)), wQRead E a14 (rf3 (a12 0) q15 q16) v14, wArr E q15 12 v15, wArr E q16 12 v16, wModel E a17 (rf2 (a17 1) q18) p582.2, wNm E q18, wLon E q19 p564.2]) [1, 2, 3, 4, 5, 6, 7, 8, 9, 10, 11, 12, 13, 14, 15, 16, 17, 0, 18, 19] 20 rfl (by decide) rfl ?_
  refine ww_istore (lv' := [(6, .int p582.1), (5, .int p564.1), (0, .ref bS), (1, .ref (a0 0)), (2, .ref (a17 0)), (3, .ref q19), (4, .int x4)]) C dL_law_585 (by decide) rfl ?_
  refine ww_aload_n C dL_law_587 rfl 4 rfl ?_
  obtain ⟨p588, hp588, hf⟩ := bdE hf
  refine ww_callV C (As := []) (st := []) (gr := [wGW E a0 (rf10 (a1 0) (a2 0) (a3 0) (a6 0) (a7 0) (a8 0) (a11 0) (a12 0) (a13 0) (a14 0)) v0, wHouse E a1 v1, wHouse E a2 v2, wHist E a3 (rf2 q4 (a5 0)) v3, wHs E q4 ah4 v4, wHouse E a5 v5, wSight E a6 v6, wSight E a7 v7, wBest E a8 (rf2 (a9 0) (a10 0)) v8, wHouse E a9 v9, wSight E a10 v10, wIntr E a11 v11, wToks E a12 v12, wHRead E a13 (rf1 (a12 0)), wQRead E a14 (rf3 (a12 0) q15 q16) v14, wArr E q15 12 v15, wArr E q16 12 v16, wNm E q18, wLon E q19 p564.2]) (c_X9_thrown (E := E) (a0 := a17) (h0_0 := a17 1) (h0_1 := q18) hp588) gL_law_X9_thrown rfl yk_X9_thrown ⟨by decide, by decide⟩ ⟨by show c + 2 + 0 + 0 ≤ 601024; omega, by show s + 12 + 0 + 0 ≤ 7293034; omega⟩ clOK9 0 0 rfl rfl [17] [0, 1, 2, 3, 4, 5, 6, 7, 8, 9, 10, 11, 12, 13, 14, 15, 16, 18, 19] 20 rfl (by decide) rfl rfl (Nat.le_of_ble_eq_true rfl) dL_law_588 ?_
  rintro _ _ ⟨rfl, rfl⟩
  refine ww_perm (gs' := [wGW E a0 (rf10 (a1 0) (a2 0) (a3 0) (a6 0) (a7 0) (a8 0) (a11 0) (a12 0) (a13 0) (a14 0)) v0, wHouse E a1 v1, wHouse E a2 v2, wHist E a3 (rf2 q4 (a5 0)) v3, wHs E q4 ah4 v4, wHouse E a5 v5, wSight E a6 v6, wSight E a7 v7, wBest E a8 (rf2 (a9 0) (a10 0)) v8, wHouse E a9 v9, wSight E a10 v10, wIntr E a11 v11, wToks E a12 v12, wHRead E a13 (rf1 (a12 0)), wQRead E a14 (rf3 (a12 0) q15 q16) v14, wArr E q15 12 v15, wArr E q16 12 v16, wModel E a17 (rf2 (a17 1) q18) p582.2, wNm E q18, wLon E q19 p564.2]) [1, 2, 3, 4, 5, 6, 7, 8, 9, 10, 11, 12, 13, 14, 15, 16, 17, 0, 18, 19] 20 rfl (by decide) rfl ?_
  refine ww_iload C dL_law_591 1 rfl ?_
  refine ww_icmp_eq (tgt := 598) C dL_law_593 (by decide) (fun c_148 => ?_) (fun c_148 => ?_)
  · replace hf := ifT c_148 hf
    refine ww_iload C dL_law_598 1 rfl ?_
    refine ww_if_ne (tgt := 615) C dL_law_600 (by decide) (fun c_149 => ?_) (fun c_149 => ?_)
    · replace hf := ifF c_149 hf
      refine ww_goto (tgt := 2229) C dL_law_615 (by decide) ?_
      obtain ⟨x4_2229, e_x4_2229⟩ : ∃ y : Int32, y = x4 + 6 := ⟨_, rfl⟩
      replace hf := ltE e_x4_2229 hf
      refine ww_iinc (v := x4_2229) (lv' := [(4, .int x4_2229), (6, .int p582.1), (5, .int p564.1), (0, .ref bS), (1, .ref (a0 0)), (2, .ref (a17 0)), (3, .ref q19)]) C dL_law_2229 6 rfl (by rw [e_x4_2229]; rfl) (by decide) rfl ?_
      refine ww_goto (tgt := 23) C dL_law_2232 (by decide) ?_
      refine ww_sub C (lv' := [(0, .ref bS), (1, .ref (a0 0)), (2, .ref (a17 0)), (3, .ref q19), (4, .int x4_2229)]) [3, 4, 5, 6, 0] rfl ?_
      refine ww_widen (k := c + 3) (n := s + 18) (by show c + 2 + 0 + 0 ≤ c + 3; omega) (by show s + 12 + 0 + 0 ≤ s + 18; omega) ?_
      exact hk23 _ _ _ _ _ _ _ _ _ _ _ _ _ _ _ _ _ _ _ hf
    · replace hf := ifT c_149 hf
      refine ww_aload_n C dL_law_603 rfl 5 rfl ?_
      refine ww_iconst (v := 0) C dL_law_604 (by decide) ?_
      obtain ⟨g_150, hf⟩ := gdE hf
      refine ww_lald C (f := p564.2) (w := wLon E q19 p564.2) 19 0 rfl q_Lon (inB_vp g_150) dL_law_605 ?_
      refine ww_iload C dL_law_606 0 rfl ?_
      refine ww_i2l C dL_law_608 ?_
      refine ww_lcmp C dL_law_609 ?_
      refine ww_if_eq (tgt := 615) C dL_law_610 (by decide) (fun c_151 => ?_) (fun c_151 => ?_)
      · replace hf := ifT c_151 hf
        refine ww_goto (tgt := 2229) C dL_law_615 (by decide) ?_
        obtain ⟨x4_2229, e_x4_2229⟩ : ∃ y : Int32, y = x4 + 6 := ⟨_, rfl⟩
        replace hf := ltE e_x4_2229 hf
        refine ww_iinc (v := x4_2229) (lv' := [(4, .int x4_2229), (6, .int p582.1), (5, .int p564.1), (0, .ref bS), (1, .ref (a0 0)), (2, .ref (a17 0)), (3, .ref q19)]) C dL_law_2229 6 rfl (by rw [e_x4_2229]; rfl) (by decide) rfl ?_
        refine ww_goto (tgt := 23) C dL_law_2232 (by decide) ?_
        refine ww_sub C (lv' := [(0, .ref bS), (1, .ref (a0 0)), (2, .ref (a17 0)), (3, .ref q19), (4, .int x4_2229)]) [3, 4, 5, 6, 0] rfl ?_
        refine ww_widen (k := c + 3) (n := s + 18) (by show c + 2 + 0 + 0 ≤ c + 3; omega) (by show s + 12 + 0 + 0 ≤ s + 18; omega) ?_
        exact hk23 _ _ _ _ _ _ _ _ _ _ _ _ _ _ _ _ _ _ _ hf
      · replace hf := ifF c_151 hf
        refine ww_iconst (v := 0) C dL_law_613 (by decide) ?_
        cases hf
  · replace hf := ifF c_148 hf
    refine ww_iconst (v := 0) C dL_law_596 (by decide) ?_
    cases hf

set_option maxHeartbeats 8000000 in
set_option maxRecDepth 100000 in
theorem w_L_law_618 {E : Ex} {K : Kx} (C : Cx E K cL_law 9 (some .boolean) RL wsL_law rmL_law) {a0 : Nat → Nat} {a1 : Nat → Nat} {a2 : Nat → Nat} {a3 : Nat → Nat} {q4 : Nat} {ah4 : Nat → Nat → Nat} {a5 : Nat → Nat} {a6 : Nat → Nat} {a7 : Nat → Nat} {a8 : Nat → Nat} {a9 : Nat → Nat} {a10 : Nat → Nat} {a11 : Nat → Nat} {a12 : Nat → Nat} {a13 : Nat → Nat} {a14 : Nat → Nat} {q15 : Nat} {q16 : Nat} {a17 : Nat → Nat} {q18 : Nat} {q19 : Nat} {bS L : Nat} {xs : Nat → Int32} {Q : State → Prop} (T0 : TL E K) (S0 : SX bS L xs K) (HR : ∀ (c s : Nat) (lv : List (Nat × Value)) (gs : List va_W), c ≤ 601024 → s ≤ 7293034 → WW E K c s Q 2236 lv [.int 1] gs) {c s : Nat} (hc : c + 3 ≤ 601024) (hs : s + 18 ≤ 7293034) {k23 : Int32 → GWV → HouseV → HouseV → HistV → (Nat → HouseV) → HouseV → SightV → SightV → BestV → HouseV → SightV → IntrV → ToksV → QReadV → (Nat → Int32) → (Nat → Int32) → ModelV → (Nat → Int64) → Option Unit} (hk23 : ∀ (x4 : Int32) (v0 : GWV) (v1 : HouseV) (v2 : HouseV) (v3 : HistV) (v4 : Nat → HouseV) (v5 : HouseV) (v6 : SightV) (v7 : SightV) (v8 : BestV) (v9 : HouseV) (v10 : SightV) (v11 : IntrV) (v12 : ToksV) (v14 : QReadV) (v15 : Nat → Int32) (v16 : Nat → Int32) (v17 : ModelV) (v19 : Nat → Int64), k23 x4 v0 v1 v2 v3 v4 v5 v6 v7 v8 v9 v10 v11 v12 v14 v15 v16 v17 v19 = some () → WW E K (c + 3) (s + 18) Q 23 [(0, .ref bS), (1, .ref (a0 0)), (2, .ref (a17 0)), (3, .ref q19), (4, .int x4)] [] [wGW E a0 (rf10 (a1 0) (a2 0) (a3 0) (a6 0) (a7 0) (a8 0) (a11 0) (a12 0) (a13 0) (a14 0)) v0, wHouse E a1 v1, wHouse E a2 v2, wHist E a3 (rf2 q4 (a5 0)) v3, wHs E q4 ah4 v4, wHouse E a5 v5, wSight E a6 v6, wSight E a7 v7, wBest E a8 (rf2 (a9 0) (a10 0)) v8, wHouse E a9 v9, wSight E a10 v10, wIntr E a11 v11, wToks E a12 v12, wHRead E a13 (rf1 (a12 0)), wQRead E a14 (rf3 (a12 0) q15 q16) v14, wArr E q15 12 v15, wArr E q16 12 v16, wModel E a17 (rf2 (a17 1) q18) v17, wNm E q18, wLon E q19 v19]) {x4 : Int32} {v0 : GWV} {v1 : HouseV} {v2 : HouseV} {v3 : HistV} {v4 : Nat → HouseV} {v5 : HouseV} {v6 : SightV} {v7 : SightV} {v8 : BestV} {v9 : HouseV} {v10 : SightV} {v11 : IntrV} {v12 : ToksV} {v14 : QReadV} {v15 : Nat → Int32} {v16 : Nat → Int32} {v17 : ModelV} {v19 : Nat → Int64} (hf : Law_618 L xs k23 x4 v0 v1 v2 v3 v4 v5 v6 v7 v8 v9 v10 v11 v12 v14 v15 v16 v17 v19 = some ()) : WW E K c s Q 618 [(0, .ref bS), (1, .ref (a0 0)), (2, .ref (a17 0)), (3, .ref q19), (4, .int x4)] [] [wGW E a0 (rf10 (a1 0) (a2 0) (a3 0) (a6 0) (a7 0) (a8 0) (a11 0) (a12 0) (a13 0) (a14 0)) v0, wHouse E a1 v1, wHouse E a2 v2, wHist E a3 (rf2 q4 (a5 0)) v3, wHs E q4 ah4 v4, wHouse E a5 v5, wSight E a6 v6, wSight E a7 v7, wBest E a8 (rf2 (a9 0) (a10 0)) v8, wHouse E a9 v9, wSight E a10 v10, wIntr E a11 v11, wToks E a12 v12, wHRead E a13 (rf1 (a12 0)), wQRead E a14 (rf3 (a12 0) q15 q16) v14, wArr E q15 12 v15, wArr E q16 12 v16, wModel E a17 (rf2 (a17 1) q18) v17, wNm E q18, wLon E q19 v19] := by
  rw [Law_618] at hf
  refine ww_aload_n C dL_law_618 rfl 1 rfl ?_
  refine ww_aload_n C dL_law_619 rfl 0 rfl ?_
  refine ww_iload C dL_law_620 4 rfl ?_
  refine ww_iconst (v := 1) C dL_law_622 (by decide) ?_
  refine ww_iadd C dL_law_623 ?_
  obtain ⟨g_140, hf⟩ := gdE hf
  refine ww_sld C S0 (inB_vp g_140) dL_law_624 ?_
  refine ww_aload_n C dL_law_625 rfl 0 rfl ?_
  refine ww_iload C dL_law_626 4 rfl ?_
  refine ww_iconst (v := 2) C dL_law_628 (by decide) ?_
  refine ww_iadd C dL_law_629 ?_
  obtain ⟨g_141, hf⟩ := gdE hf
  refine ww_sld C S0 (inB_vp g_141) dL_law_630 ?_
  refine ww_aload_n C dL_law_631 rfl 3 rfl ?_
  obtain ⟨p632, hp632, hf⟩ := bdE hf
  refine ww_callSL C T0 (As := [.ref (a0 0), .int (xs (Int32.toNatClampNeg (x4 + 1))), .int (xs (Int32.toNatClampNeg (x4 + 2))), .ref q19]) (st := []) (gr := [wHouse E a2 v2, wHist E a3 (rf2 q4 (a5 0)) v3, wHs E q4 ah4 v4, wHouse E a5 v5, wSight E a6 v6, wSight E a7 v7, wBest E a8 (rf2 (a9 0) (a10 0)) v8, wHouse E a9 v9, wSight E a10 v10, wIntr E a11 v11, wToks E a12 v12, wHRead E a13 (rf1 (a12 0)), wQRead E a14 (rf3 (a12 0) q15 q16) v14, wArr E q15 12 v15, wArr E q16 12 v16, wModel E a17 (rf2 (a17 1) q18) v17, wNm E q18]) (c_L_walk (E := E) (a0 := a0) (h0_1 := a2 0) (h0_2 := a3 0) (h0_3 := a6 0) (h0_4 := a7 0) (h0_5 := a8 0) (h0_6 := a11 0) (h0_7 := a12 0) (h0_8 := a13 0) (h0_9 := a14 0) (a1 := a1) (q2 := q19) hp632) gL_law_L_walk rfl ysk_L_walk ⟨by decide, by decide⟩ ⟨by show c + 1 ≤ 601024; omega, by show s + 6 ≤ 7293034; omega⟩ [0, 1, 19] [2, 3, 4, 5, 6, 7, 8, 9, 10, 11, 12, 13, 14, 15, 16, 17, 18] 20 rfl (by decide) rfl rfl (Nat.le_of_ble_eq_true rfl) dL_law_632 ?_
  rintro _ _ ⟨rfl, rfl⟩
  refine ww_perm (gs' := [wGW E a0 (rf10 (a1 0) (a2 0) (a3 0) (a6 0) (a7 0) (a8 0) (a11 0) (a12 0) (a13 0) (a14 0)) v0, wHouse E a1 v1, wHouse E a2 v2, wHist E a3 (rf2 q4 (a5 0)) v3, wHs E q4 ah4 v4, wHouse E a5 v5, wSight E a6 v6, wSight E a7 v7, wBest E a8 (rf2 (a9 0) (a10 0)) v8, wHouse E a9 v9, wSight E a10 v10, wIntr E a11 v11, wToks E a12 v12, wHRead E a13 (rf1 (a12 0)), wQRead E a14 (rf3 (a12 0) q15 q16) v14, wArr E q15 12 v15, wArr E q16 12 v16, wModel E a17 (rf2 (a17 1) q18) v17, wNm E q18, wLon E q19 p632.2]) [0, 1, 3, 4, 5, 6, 7, 8, 9, 10, 11, 12, 13, 14, 15, 16, 17, 18, 19, 2] 20 rfl (by decide) rfl ?_
  refine ww_istore (lv' := [(5, .int p632.1), (0, .ref bS), (1, .ref (a0 0)), (2, .ref (a17 0)), (3, .ref q19), (4, .int x4)]) C dL_law_635 (by decide) rfl ?_
  refine ww_aload_n C dL_law_637 rfl 3 rfl ?_
  refine ww_aload_n C dL_law_638 rfl 1 rfl ?_
  refine ww_iload C dL_law_639 5 rfl ?_
  refine ww_iconst (v := 1) C dL_law_641 (by decide) ?_
  refine ww_iadd C dL_law_642 ?_
  refine ww_sld C S0 (inB_vp g_140) dL_law_643 ?_
  refine ww_aload_n C dL_law_644 rfl 1 rfl ?_
  refine ww_iload C dL_law_645 5 rfl ?_
  refine ww_iconst (v := 2) C dL_law_647 (by decide) ?_
  refine ww_iadd C dL_law_648 ?_
  refine ww_sld C S0 (inB_vp g_141) dL_law_649 ?_
  obtain ⟨p650, hp650, hf⟩ := bdE hf
  refine ww_callV C (As := [.int (xs (Int32.toNatClampNeg (x4 + 1))), .int (xs (Int32.toNatClampNeg (x4 + 2)))]) (st := []) (gr := [wGW E a0 (rf10 (a1 0) (a2 0) (a3 0) (a6 0) (a7 0) (a8 0) (a11 0) (a12 0) (a13 0) (a14 0)) v0, wHouse E a1 v1, wHouse E a2 v2, wHist E a3 (rf2 q4 (a5 0)) v3, wHs E q4 ah4 v4, wHouse E a5 v5, wSight E a6 v6, wSight E a7 v7, wBest E a8 (rf2 (a9 0) (a10 0)) v8, wHouse E a9 v9, wSight E a10 v10, wIntr E a11 v11, wToks E a12 v12, wHRead E a13 (rf1 (a12 0)), wQRead E a14 (rf3 (a12 0) q15 q16) v14, wArr E q15 12 v15, wArr E q16 12 v16, wNm E q18, wLon E q19 p632.2]) (c_X9_walk (E := E) (a0 := a17) (h0_1 := q18) hp650) gL_law_X9_walk rfl yk_X9_walk ⟨by decide, by decide⟩ ⟨by show c + 1 + 0 ≤ 601024; omega, by show s + 6 + 0 ≤ 7293034; omega⟩ clOK9 0 0 rfl rfl [17] [0, 1, 2, 3, 4, 5, 6, 7, 8, 9, 10, 11, 12, 13, 14, 15, 16, 18, 19] 20 rfl (by decide) rfl rfl (Nat.le_of_ble_eq_true rfl) dL_law_650 ?_
  rintro _ _ ⟨rfl, rfl⟩
  refine ww_perm (gs' := [wGW E a0 (rf10 (a1 0) (a2 0) (a3 0) (a6 0) (a7 0) (a8 0) (a11 0) (a12 0) (a13 0) (a14 0)) v0, wHouse E a1 v1, wHouse E a2 v2, wHist E a3 (rf2 q4 (a5 0)) v3, wHs E q4 ah4 v4, wHouse E a5 v5, wSight E a6 v6, wSight E a7 v7, wBest E a8 (rf2 (a9 0) (a10 0)) v8, wHouse E a9 v9, wSight E a10 v10, wIntr E a11 v11, wToks E a12 v12, wHRead E a13 (rf1 (a12 0)), wQRead E a14 (rf3 (a12 0) q15 q16) v14, wArr E q15 12 v15, wArr E q16 12 v16, wModel E a17 (rf2 (a17 1) q18) p650.2, wNm E q18, wLon E q19 p632.2]) [1, 2, 3, 4, 5, 6, 7, 8, 9, 10, 11, 12, 13, 14, 15, 16, 17, 0, 18, 19] 20 rfl (by decide) rfl ?_
  refine ww_istore (lv' := [(6, .int p650.1), (5, .int p632.1), (0, .ref bS), (1, .ref (a0 0)), (2, .ref (a17 0)), (3, .ref q19), (4, .int x4)]) C dL_law_653 (by decide) rfl ?_
  refine ww_aload_n C dL_law_655 rfl 4 rfl ?_
  obtain ⟨p656, hp656, hf⟩ := bdE hf
  refine ww_callV C (As := []) (st := []) (gr := [wGW E a0 (rf10 (a1 0) (a2 0) (a3 0) (a6 0) (a7 0) (a8 0) (a11 0) (a12 0) (a13 0) (a14 0)) v0, wHouse E a1 v1, wHouse E a2 v2, wHist E a3 (rf2 q4 (a5 0)) v3, wHs E q4 ah4 v4, wHouse E a5 v5, wSight E a6 v6, wSight E a7 v7, wBest E a8 (rf2 (a9 0) (a10 0)) v8, wHouse E a9 v9, wSight E a10 v10, wIntr E a11 v11, wToks E a12 v12, wHRead E a13 (rf1 (a12 0)), wQRead E a14 (rf3 (a12 0) q15 q16) v14, wArr E q15 12 v15, wArr E q16 12 v16, wNm E q18, wLon E q19 p632.2]) (c_X9_thrown (E := E) (a0 := a17) (h0_0 := a17 1) (h0_1 := q18) hp656) gL_law_X9_thrown rfl yk_X9_thrown ⟨by decide, by decide⟩ ⟨by show c + 1 + 0 + 0 ≤ 601024; omega, by show s + 6 + 0 + 0 ≤ 7293034; omega⟩ clOK9 0 0 rfl rfl [17] [0, 1, 2, 3, 4, 5, 6, 7, 8, 9, 10, 11, 12, 13, 14, 15, 16, 18, 19] 20 rfl (by decide) rfl rfl (Nat.le_of_ble_eq_true rfl) dL_law_656 ?_
  rintro _ _ ⟨rfl, rfl⟩
  refine ww_perm (gs' := [wGW E a0 (rf10 (a1 0) (a2 0) (a3 0) (a6 0) (a7 0) (a8 0) (a11 0) (a12 0) (a13 0) (a14 0)) v0, wHouse E a1 v1, wHouse E a2 v2, wHist E a3 (rf2 q4 (a5 0)) v3, wHs E q4 ah4 v4, wHouse E a5 v5, wSight E a6 v6, wSight E a7 v7, wBest E a8 (rf2 (a9 0) (a10 0)) v8, wHouse E a9 v9, wSight E a10 v10, wIntr E a11 v11, wToks E a12 v12, wHRead E a13 (rf1 (a12 0)), wQRead E a14 (rf3 (a12 0) q15 q16) v14, wArr E q15 12 v15, wArr E q16 12 v16, wModel E a17 (rf2 (a17 1) q18) p650.2, wNm E q18, wLon E q19 p632.2]) [1, 2, 3, 4, 5, 6, 7, 8, 9, 10, 11, 12, 13, 14, 15, 16, 17, 0, 18, 19] 20 rfl (by decide) rfl ?_
  refine ww_iload C dL_law_659 1 rfl ?_
  refine ww_icmp_eq (tgt := 666) C dL_law_661 (by decide) (fun c_142 => ?_) (fun c_142 => ?_)
  · replace hf := ifT c_142 hf
    refine ww_iload C dL_law_666 1 rfl ?_
    refine ww_if_ne (tgt := 683) C dL_law_668 (by decide) (fun c_143 => ?_) (fun c_143 => ?_)
    · replace hf := ifF c_143 hf
      refine ww_goto (tgt := 2229) C dL_law_683 (by decide) ?_
      obtain ⟨x4_2229, e_x4_2229⟩ : ∃ y : Int32, y = x4 + 6 := ⟨_, rfl⟩
      replace hf := ltE e_x4_2229 hf
      refine ww_iinc (v := x4_2229) (lv' := [(4, .int x4_2229), (6, .int p650.1), (5, .int p632.1), (0, .ref bS), (1, .ref (a0 0)), (2, .ref (a17 0)), (3, .ref q19)]) C dL_law_2229 6 rfl (by rw [e_x4_2229]; rfl) (by decide) rfl ?_
      refine ww_goto (tgt := 23) C dL_law_2232 (by decide) ?_
      refine ww_sub C (lv' := [(0, .ref bS), (1, .ref (a0 0)), (2, .ref (a17 0)), (3, .ref q19), (4, .int x4_2229)]) [3, 4, 5, 6, 0] rfl ?_
      refine ww_widen (k := c + 3) (n := s + 18) (by show c + 1 + 0 + 0 ≤ c + 3; omega) (by show s + 6 + 0 + 0 ≤ s + 18; omega) ?_
      exact hk23 _ _ _ _ _ _ _ _ _ _ _ _ _ _ _ _ _ _ _ hf
    · replace hf := ifT c_143 hf
      refine ww_aload_n C dL_law_671 rfl 5 rfl ?_
      refine ww_iconst (v := 0) C dL_law_672 (by decide) ?_
      obtain ⟨g_144, hf⟩ := gdE hf
      refine ww_lald C (f := p632.2) (w := wLon E q19 p632.2) 19 0 rfl q_Lon (inB_vp g_144) dL_law_673 ?_
      refine ww_iload C dL_law_674 0 rfl ?_
      refine ww_i2l C dL_law_676 ?_
      refine ww_lcmp C dL_law_677 ?_
      refine ww_if_eq (tgt := 683) C dL_law_678 (by decide) (fun c_145 => ?_) (fun c_145 => ?_)
      · replace hf := ifT c_145 hf
        refine ww_goto (tgt := 2229) C dL_law_683 (by decide) ?_
        obtain ⟨x4_2229, e_x4_2229⟩ : ∃ y : Int32, y = x4 + 6 := ⟨_, rfl⟩
        replace hf := ltE e_x4_2229 hf
        refine ww_iinc (v := x4_2229) (lv' := [(4, .int x4_2229), (6, .int p650.1), (5, .int p632.1), (0, .ref bS), (1, .ref (a0 0)), (2, .ref (a17 0)), (3, .ref q19)]) C dL_law_2229 6 rfl (by rw [e_x4_2229]; rfl) (by decide) rfl ?_
        refine ww_goto (tgt := 23) C dL_law_2232 (by decide) ?_
        refine ww_sub C (lv' := [(0, .ref bS), (1, .ref (a0 0)), (2, .ref (a17 0)), (3, .ref q19), (4, .int x4_2229)]) [3, 4, 5, 6, 0] rfl ?_
        refine ww_widen (k := c + 3) (n := s + 18) (by show c + 1 + 0 + 0 ≤ c + 3; omega) (by show s + 6 + 0 + 0 ≤ s + 18; omega) ?_
        exact hk23 _ _ _ _ _ _ _ _ _ _ _ _ _ _ _ _ _ _ _ hf
      · replace hf := ifF c_145 hf
        refine ww_iconst (v := 0) C dL_law_681 (by decide) ?_
        cases hf
  · replace hf := ifF c_142 hf
    refine ww_iconst (v := 0) C dL_law_664 (by decide) ?_
    cases hf

set_option maxHeartbeats 8000000 in
set_option maxRecDepth 100000 in
theorem w_L_law_686 {E : Ex} {K : Kx} (C : Cx E K cL_law 9 (some .boolean) RL wsL_law rmL_law) {a0 : Nat → Nat} {a1 : Nat → Nat} {a2 : Nat → Nat} {a3 : Nat → Nat} {q4 : Nat} {ah4 : Nat → Nat → Nat} {a5 : Nat → Nat} {a6 : Nat → Nat} {a7 : Nat → Nat} {a8 : Nat → Nat} {a9 : Nat → Nat} {a10 : Nat → Nat} {a11 : Nat → Nat} {a12 : Nat → Nat} {a13 : Nat → Nat} {a14 : Nat → Nat} {q15 : Nat} {q16 : Nat} {a17 : Nat → Nat} {q18 : Nat} {q19 : Nat} {bS L : Nat} {xs : Nat → Int32} {Q : State → Prop} (T0 : TL E K) (S0 : SX bS L xs K) (HR : ∀ (c s : Nat) (lv : List (Nat × Value)) (gs : List va_W), c ≤ 601024 → s ≤ 7293034 → WW E K c s Q 2236 lv [.int 1] gs) {c s : Nat} (hc : c + 3 ≤ 601024) (hs : s + 18 ≤ 7293034) {k23 : Int32 → GWV → HouseV → HouseV → HistV → (Nat → HouseV) → HouseV → SightV → SightV → BestV → HouseV → SightV → IntrV → ToksV → QReadV → (Nat → Int32) → (Nat → Int32) → ModelV → (Nat → Int64) → Option Unit} (hk23 : ∀ (x4 : Int32) (v0 : GWV) (v1 : HouseV) (v2 : HouseV) (v3 : HistV) (v4 : Nat → HouseV) (v5 : HouseV) (v6 : SightV) (v7 : SightV) (v8 : BestV) (v9 : HouseV) (v10 : SightV) (v11 : IntrV) (v12 : ToksV) (v14 : QReadV) (v15 : Nat → Int32) (v16 : Nat → Int32) (v17 : ModelV) (v19 : Nat → Int64), k23 x4 v0 v1 v2 v3 v4 v5 v6 v7 v8 v9 v10 v11 v12 v14 v15 v16 v17 v19 = some () → WW E K (c + 3) (s + 18) Q 23 [(0, .ref bS), (1, .ref (a0 0)), (2, .ref (a17 0)), (3, .ref q19), (4, .int x4)] [] [wGW E a0 (rf10 (a1 0) (a2 0) (a3 0) (a6 0) (a7 0) (a8 0) (a11 0) (a12 0) (a13 0) (a14 0)) v0, wHouse E a1 v1, wHouse E a2 v2, wHist E a3 (rf2 q4 (a5 0)) v3, wHs E q4 ah4 v4, wHouse E a5 v5, wSight E a6 v6, wSight E a7 v7, wBest E a8 (rf2 (a9 0) (a10 0)) v8, wHouse E a9 v9, wSight E a10 v10, wIntr E a11 v11, wToks E a12 v12, wHRead E a13 (rf1 (a12 0)), wQRead E a14 (rf3 (a12 0) q15 q16) v14, wArr E q15 12 v15, wArr E q16 12 v16, wModel E a17 (rf2 (a17 1) q18) v17, wNm E q18, wLon E q19 v19]) {x4 : Int32} {v0 : GWV} {v1 : HouseV} {v2 : HouseV} {v3 : HistV} {v4 : Nat → HouseV} {v5 : HouseV} {v6 : SightV} {v7 : SightV} {v8 : BestV} {v9 : HouseV} {v10 : SightV} {v11 : IntrV} {v12 : ToksV} {v14 : QReadV} {v15 : Nat → Int32} {v16 : Nat → Int32} {v17 : ModelV} {v19 : Nat → Int64} (hf : Law_686 L xs k23 x4 v0 v1 v2 v3 v4 v5 v6 v7 v8 v9 v10 v11 v12 v14 v15 v16 v17 v19 = some ()) : WW E K c s Q 686 [(0, .ref bS), (1, .ref (a0 0)), (2, .ref (a17 0)), (3, .ref q19), (4, .int x4)] [] [wGW E a0 (rf10 (a1 0) (a2 0) (a3 0) (a6 0) (a7 0) (a8 0) (a11 0) (a12 0) (a13 0) (a14 0)) v0, wHouse E a1 v1, wHouse E a2 v2, wHist E a3 (rf2 q4 (a5 0)) v3, wHs E q4 ah4 v4, wHouse E a5 v5, wSight E a6 v6, wSight E a7 v7, wBest E a8 (rf2 (a9 0) (a10 0)) v8, wHouse E a9 v9, wSight E a10 v10, wIntr E a11 v11, wToks E a12 v12, wHRead E a13 (rf1 (a12 0)), wQRead E a14 (rf3 (a12 0) q15 q16) v14, wArr E q15 12 v15, wArr E q16 12 v16, wModel E a17 (rf2 (a17 1) q18) v17, wNm E q18, wLon E q19 v19] := by
  rw [Law_686] at hf
  refine ww_aload_n C dL_law_686 rfl 1 rfl ?_
  refine ww_aload_n C dL_law_687 rfl 0 rfl ?_
  refine ww_iload C dL_law_688 4 rfl ?_
  refine ww_iconst (v := 1) C dL_law_690 (by decide) ?_
  refine ww_iadd C dL_law_691 ?_
  obtain ⟨g_134, hf⟩ := gdE hf
  refine ww_sld C S0 (inB_vp g_134) dL_law_692 ?_
  refine ww_aload_n C dL_law_693 rfl 0 rfl ?_
  refine ww_iload C dL_law_694 4 rfl ?_
  refine ww_iconst (v := 2) C dL_law_696 (by decide) ?_
  refine ww_iadd C dL_law_697 ?_
  obtain ⟨g_135, hf⟩ := gdE hf
  refine ww_sld C S0 (inB_vp g_135) dL_law_698 ?_
  refine ww_aload_n C dL_law_699 rfl 3 rfl ?_
  obtain ⟨p700, hp700, hf⟩ := bdE hf
  refine ww_callSL C T0 (As := [.ref (a0 0), .int (xs (Int32.toNatClampNeg (x4 + 1))), .int (xs (Int32.toNatClampNeg (x4 + 2))), .ref q19]) (st := []) (gr := [wHouse E a2 v2, wHist E a3 (rf2 q4 (a5 0)) v3, wHs E q4 ah4 v4, wHouse E a5 v5, wSight E a6 v6, wSight E a7 v7, wBest E a8 (rf2 (a9 0) (a10 0)) v8, wHouse E a9 v9, wSight E a10 v10, wIntr E a11 v11, wToks E a12 v12, wHRead E a13 (rf1 (a12 0)), wQRead E a14 (rf3 (a12 0) q15 q16) v14, wArr E q15 12 v15, wArr E q16 12 v16, wModel E a17 (rf2 (a17 1) q18) v17, wNm E q18]) (c_L_roomOf (E := E) (a0 := a0) (h0_1 := a2 0) (h0_2 := a3 0) (h0_3 := a6 0) (h0_4 := a7 0) (h0_5 := a8 0) (h0_6 := a11 0) (h0_7 := a12 0) (h0_8 := a13 0) (h0_9 := a14 0) (a1 := a1) (q2 := q19) hp700) gL_law_L_roomOf rfl ysk_L_roomOf ⟨by decide, by decide⟩ ⟨by show c + 2 ≤ 601024; omega, by show s + 12 ≤ 7293034; omega⟩ [0, 1, 19] [2, 3, 4, 5, 6, 7, 8, 9, 10, 11, 12, 13, 14, 15, 16, 17, 18] 20 rfl (by decide) rfl rfl (Nat.le_of_ble_eq_true rfl) dL_law_700 ?_
  rintro _ _ ⟨rfl, rfl⟩
  refine ww_perm (gs' := [wGW E a0 (rf10 (a1 0) (a2 0) (a3 0) (a6 0) (a7 0) (a8 0) (a11 0) (a12 0) (a13 0) (a14 0)) v0, wHouse E a1 v1, wHouse E a2 v2, wHist E a3 (rf2 q4 (a5 0)) v3, wHs E q4 ah4 v4, wHouse E a5 v5, wSight E a6 v6, wSight E a7 v7, wBest E a8 (rf2 (a9 0) (a10 0)) v8, wHouse E a9 v9, wSight E a10 v10, wIntr E a11 v11, wToks E a12 v12, wHRead E a13 (rf1 (a12 0)), wQRead E a14 (rf3 (a12 0) q15 q16) v14, wArr E q15 12 v15, wArr E q16 12 v16, wModel E a17 (rf2 (a17 1) q18) v17, wNm E q18, wLon E q19 p700.2]) [0, 1, 3, 4, 5, 6, 7, 8, 9, 10, 11, 12, 13, 14, 15, 16, 17, 18, 19, 2] 20 rfl (by decide) rfl ?_
  refine ww_istore (lv' := [(5, .int p700.1), (0, .ref bS), (1, .ref (a0 0)), (2, .ref (a17 0)), (3, .ref q19), (4, .int x4)]) C dL_law_703 (by decide) rfl ?_
  refine ww_aload_n C dL_law_705 rfl 3 rfl ?_
  refine ww_aload_n C dL_law_706 rfl 1 rfl ?_
  refine ww_iload C dL_law_707 5 rfl ?_
  refine ww_iconst (v := 1) C dL_law_709 (by decide) ?_
  refine ww_iadd C dL_law_710 ?_
  refine ww_sld C S0 (inB_vp g_134) dL_law_711 ?_
  refine ww_aload_n C dL_law_712 rfl 1 rfl ?_
  refine ww_iload C dL_law_713 5 rfl ?_
  refine ww_iconst (v := 2) C dL_law_715 (by decide) ?_
  refine ww_iadd C dL_law_716 ?_
  refine ww_sld C S0 (inB_vp g_135) dL_law_717 ?_
  obtain ⟨p718, hp718, hf⟩ := bdE hf
  refine ww_callV C (As := [.int (xs (Int32.toNatClampNeg (x4 + 1))), .int (xs (Int32.toNatClampNeg (x4 + 2)))]) (st := []) (gr := [wGW E a0 (rf10 (a1 0) (a2 0) (a3 0) (a6 0) (a7 0) (a8 0) (a11 0) (a12 0) (a13 0) (a14 0)) v0, wHouse E a1 v1, wHouse E a2 v2, wHist E a3 (rf2 q4 (a5 0)) v3, wHs E q4 ah4 v4, wHouse E a5 v5, wSight E a6 v6, wSight E a7 v7, wBest E a8 (rf2 (a9 0) (a10 0)) v8, wHouse E a9 v9, wSight E a10 v10, wIntr E a11 v11, wToks E a12 v12, wHRead E a13 (rf1 (a12 0)), wQRead E a14 (rf3 (a12 0) q15 q16) v14, wArr E q15 12 v15, wArr E q16 12 v16, wNm E q18, wLon E q19 p700.2]) (c_X9_roomOf (E := E) (a0 := a17) (h0_1 := q18) hp718) gL_law_X9_roomOf rfl yk_X9_roomOf ⟨by decide, by decide⟩ ⟨by show c + 2 + 0 ≤ 601024; omega, by show s + 12 + 0 ≤ 7293034; omega⟩ clOK9 0 0 rfl rfl [17] [0, 1, 2, 3, 4, 5, 6, 7, 8, 9, 10, 11, 12, 13, 14, 15, 16, 18, 19] 20 rfl (by decide) rfl rfl (Nat.le_of_ble_eq_true rfl) dL_law_718 ?_
  rintro _ _ ⟨rfl, rfl⟩
  refine ww_perm (gs' := [wGW E a0 (rf10 (a1 0) (a2 0) (a3 0) (a6 0) (a7 0) (a8 0) (a11 0) (a12 0) (a13 0) (a14 0)) v0, wHouse E a1 v1, wHouse E a2 v2, wHist E a3 (rf2 q4 (a5 0)) v3, wHs E q4 ah4 v4, wHouse E a5 v5, wSight E a6 v6, wSight E a7 v7, wBest E a8 (rf2 (a9 0) (a10 0)) v8, wHouse E a9 v9, wSight E a10 v10, wIntr E a11 v11, wToks E a12 v12, wHRead E a13 (rf1 (a12 0)), wQRead E a14 (rf3 (a12 0) q15 q16) v14, wArr E q15 12 v15, wArr E q16 12 v16, wModel E a17 (rf2 (a17 1) q18) p718.2, wNm E q18, wLon E q19 p700.2]) [1, 2, 3, 4, 5, 6, 7, 8, 9, 10, 11, 12, 13, 14, 15, 16, 17, 0, 18, 19] 20 rfl (by decide) rfl ?_
  refine ww_istore (lv' := [(6, .int p718.1), (5, .int p700.1), (0, .ref bS), (1, .ref (a0 0)), (2, .ref (a17 0)), (3, .ref q19), (4, .int x4)]) C dL_law_721 (by decide) rfl ?_
  refine ww_aload_n C dL_law_723 rfl 4 rfl ?_
  obtain ⟨p724, hp724, hf⟩ := bdE hf
  refine ww_callV C (As := []) (st := []) (gr := [wGW E a0 (rf10 (a1 0) (a2 0) (a3 0) (a6 0) (a7 0) (a8 0) (a11 0) (a12 0) (a13 0) (a14 0)) v0, wHouse E a1 v1, wHouse E a2 v2, wHist E a3 (rf2 q4 (a5 0)) v3, wHs E q4 ah4 v4, wHouse E a5 v5, wSight E a6 v6, wSight E a7 v7, wBest E a8 (rf2 (a9 0) (a10 0)) v8, wHouse E a9 v9, wSight E a10 v10, wIntr E a11 v11, wToks E a12 v12, wHRead E a13 (rf1 (a12 0)), wQRead E a14 (rf3 (a12 0) q15 q16) v14, wArr E q15 12 v15, wArr E q16 12 v16, wNm E q18, wLon E q19 p700.2]) (c_X9_thrown (E := E) (a0 := a17) (h0_0 := a17 1) (h0_1 := q18) hp724) gL_law_X9_thrown rfl yk_X9_thrown ⟨by decide, by decide⟩ ⟨by show c + 2 + 0 + 0 ≤ 601024; omega, by show s + 12 + 0 + 0 ≤ 7293034; omega⟩ clOK9 0 0 rfl rfl [17] [0, 1, 2, 3, 4, 5, 6, 7, 8, 9, 10, 11, 12, 13, 14, 15, 16, 18, 19] 20 rfl (by decide) rfl rfl (Nat.le_of_ble_eq_true rfl) dL_law_724 ?_
  rintro _ _ ⟨rfl, rfl⟩
  refine ww_perm (gs' := [wGW E a0 (rf10 (a1 0) (a2 0) (a3 0) (a6 0) (a7 0) (a8 0) (a11 0) (a12 0) (a13 0) (a14 0)) v0, wHouse E a1 v1, wHouse E a2 v2, wHist E a3 (rf2 q4 (a5 0)) v3, wHs E q4 ah4 v4, wHouse E a5 v5, wSight E a6 v6, wSight E a7 v7, wBest E a8 (rf2 (a9 0) (a10 0)) v8, wHouse E a9 v9, wSight E a10 v10, wIntr E a11 v11, wToks E a12 v12, wHRead E a13 (rf1 (a12 0)), wQRead E a14 (rf3 (a12 0) q15 q16) v14, wArr E q15 12 v15, wArr E q16 12 v16, wModel E a17 (rf2 (a17 1) q18) p718.2, wNm E q18, wLon E q19 p700.2]) [1, 2, 3, 4, 5, 6, 7, 8, 9, 10, 11, 12, 13, 14, 15, 16, 17, 0, 18, 19] 20 rfl (by decide) rfl ?_
  refine ww_iload C dL_law_727 1 rfl ?_
  refine ww_icmp_eq (tgt := 734) C dL_law_729 (by decide) (fun c_136 => ?_) (fun c_136 => ?_)
  · replace hf := ifT c_136 hf
    refine ww_iload C dL_law_734 1 rfl ?_
    refine ww_if_ne (tgt := 751) C dL_law_736 (by decide) (fun c_137 => ?_) (fun c_137 => ?_)
    · replace hf := ifF c_137 hf
      refine ww_goto (tgt := 2229) C dL_law_751 (by decide) ?_
      obtain ⟨x4_2229, e_x4_2229⟩ : ∃ y : Int32, y = x4 + 6 := ⟨_, rfl⟩
      replace hf := ltE e_x4_2229 hf
      refine ww_iinc (v := x4_2229) (lv' := [(4, .int x4_2229), (6, .int p718.1), (5, .int p700.1), (0, .ref bS), (1, .ref (a0 0)), (2, .ref (a17 0)), (3, .ref q19)]) C dL_law_2229 6 rfl (by rw [e_x4_2229]; rfl) (by decide) rfl ?_
      refine ww_goto (tgt := 23) C dL_law_2232 (by decide) ?_
      refine ww_sub C (lv' := [(0, .ref bS), (1, .ref (a0 0)), (2, .ref (a17 0)), (3, .ref q19), (4, .int x4_2229)]) [3, 4, 5, 6, 0] rfl ?_
      refine ww_widen (k := c + 3) (n := s + 18) (by show c + 2 + 0 + 0 ≤ c + 3; omega) (by show s + 12 + 0 + 0 ≤ s + 18; omega) ?_
      exact hk23 _ _ _ _ _ _ _ _ _ _ _ _ _ _ _ _ _ _ _ hf
    · replace hf := ifT c_137 hf
      refine ww_aload_n C dL_law_739 rfl 5 rfl ?_
      refine ww_iconst (v := 0) C dL_law_740 (by decide) ?_
      obtain ⟨g_138, hf⟩ := gdE hf
      refine ww_lald C (f := p700.2) (w := wLon E q19 p700.2) 19 0 rfl q_Lon (inB_vp g_138) dL_law_741 ?_
      refine ww_iload C dL_law_742 0 rfl ?_
      refine ww_i2l C dL_law_744 ?_
      refine ww_lcmp C dL_law_745 ?_
      refine ww_if_eq (tgt := 751) C dL_law_746 (by decide) (fun c_139 => ?_) (fun c_139 => ?_)
      · replace hf := ifT c_139 hf
        refine ww_goto (tgt := 2229) C dL_law_751 (by decide) ?_
        obtain ⟨x4_2229, e_x4_2229⟩ : ∃ y : Int32, y = x4 + 6 := ⟨_, rfl⟩
        replace hf := ltE e_x4_2229 hf
        refine ww_iinc (v := x4_2229) (lv' := [(4, .int x4_2229), (6, .int p718.1), (5, .int p700.1), (0, .ref bS), (1, .ref (a0 0)), (2, .ref (a17 0)), (3, .ref q19)]) C dL_law_2229 6 rfl (by rw [e_x4_2229]; rfl) (by decide) rfl ?_
        refine ww_goto (tgt := 23) C dL_law_2232 (by decide) ?_
        refine ww_sub C (lv' := [(0, .ref bS), (1, .ref (a0 0)), (2, .ref (a17 0)), (3, .ref q19), (4, .int x4_2229)]) [3, 4, 5, 6, 0] rfl ?_
        refine ww_widen (k := c + 3) (n := s + 18) (by show c + 2 + 0 + 0 ≤ c + 3; omega) (by show s + 12 + 0 + 0 ≤ s + 18; omega) ?_
        exact hk23 _ _ _ _ _ _ _ _ _ _ _ _ _ _ _ _ _ _ _ hf
      · replace hf := ifF c_139 hf
        refine ww_iconst (v := 0) C dL_law_749 (by decide) ?_
        cases hf
  · replace hf := ifF c_136 hf
    refine ww_iconst (v := 0) C dL_law_732 (by decide) ?_
    cases hf

set_option maxHeartbeats 8000000 in
set_option maxRecDepth 100000 in
theorem w_L_law_754 {E : Ex} {K : Kx} (C : Cx E K cL_law 9 (some .boolean) RL wsL_law rmL_law) {a0 : Nat → Nat} {a1 : Nat → Nat} {a2 : Nat → Nat} {a3 : Nat → Nat} {q4 : Nat} {ah4 : Nat → Nat → Nat} {a5 : Nat → Nat} {a6 : Nat → Nat} {a7 : Nat → Nat} {a8 : Nat → Nat} {a9 : Nat → Nat} {a10 : Nat → Nat} {a11 : Nat → Nat} {a12 : Nat → Nat} {a13 : Nat → Nat} {a14 : Nat → Nat} {q15 : Nat} {q16 : Nat} {a17 : Nat → Nat} {q18 : Nat} {q19 : Nat} {bS L : Nat} {xs : Nat → Int32} {Q : State → Prop} (T0 : TL E K) (S0 : SX bS L xs K) (HR : ∀ (c s : Nat) (lv : List (Nat × Value)) (gs : List va_W), c ≤ 601024 → s ≤ 7293034 → WW E K c s Q 2236 lv [.int 1] gs) {c s : Nat} (hc : c + 3 ≤ 601024) (hs : s + 18 ≤ 7293034) {k23 : Int32 → GWV → HouseV → HouseV → HistV → (Nat → HouseV) → HouseV → SightV → SightV → BestV → HouseV → SightV → IntrV → ToksV → QReadV → (Nat → Int32) → (Nat → Int32) → ModelV → (Nat → Int64) → Option Unit} (hk23 : ∀ (x4 : Int32) (v0 : GWV) (v1 : HouseV) (v2 : HouseV) (v3 : HistV) (v4 : Nat → HouseV) (v5 : HouseV) (v6 : SightV) (v7 : SightV) (v8 : BestV) (v9 : HouseV) (v10 : SightV) (v11 : IntrV) (v12 : ToksV) (v14 : QReadV) (v15 : Nat → Int32) (v16 : Nat → Int32) (v17 : ModelV) (v19 : Nat → Int64), k23 x4 v0 v1 v2 v3 v4 v5 v6 v7 v8 v9 v10 v11 v12 v14 v15 v16 v17 v19 = some () → WW E K (c + 3) (s + 18) Q 23 [(0, .ref bS), (1, .ref (a0 0)), (2, .ref (a17 0)), (3, .ref q19), (4, .int x4)] [] [wGW E a0 (rf10 (a1 0) (a2 0) (a3 0) (a6 0) (a7 0) (a8 0) (a11 0) (a12 0) (a13 0) (a14 0)) v0, wHouse E a1 v1, wHouse E a2 v2, wHist E a3 (rf2 q4 (a5 0)) v3, wHs E q4 ah4 v4, wHouse E a5 v5, wSight E a6 v6, wSight E a7 v7, wBest E a8 (rf2 (a9 0) (a10 0)) v8, wHouse E a9 v9, wSight E a10 v10, wIntr E a11 v11, wToks E a12 v12, wHRead E a13 (rf1 (a12 0)), wQRead E a14 (rf3 (a12 0) q15 q16) v14, wArr E q15 12 v15, wArr E q16 12 v16, wModel E a17 (rf2 (a17 1) q18) v17, wNm E q18, wLon E q19 v19]) {x4 : Int32} {v0 : GWV} {v1 : HouseV} {v2 : HouseV} {v3 : HistV} {v4 : Nat → HouseV} {v5 : HouseV} {v6 : SightV} {v7 : SightV} {v8 : BestV} {v9 : HouseV} {v10 : SightV} {v11 : IntrV} {v12 : ToksV} {v14 : QReadV} {v15 : Nat → Int32} {v16 : Nat → Int32} {v17 : ModelV} {v19 : Nat → Int64} (hf : Law_754 L xs k23 x4 v0 v1 v2 v3 v4 v5 v6 v7 v8 v9 v10 v11 v12 v14 v15 v16 v17 v19 = some ()) : WW E K c s Q 754 [(0, .ref bS), (1, .ref (a0 0)), (2, .ref (a17 0)), (3, .ref q19), (4, .int x4)] [] [wGW E a0 (rf10 (a1 0) (a2 0) (a3 0) (a6 0) (a7 0) (a8 0) (a11 0) (a12 0) (a13 0) (a14 0)) v0, wHouse E a1 v1, wHouse E a2 v2, wHist E a3 (rf2 q4 (a5 0)) v3, wHs E q4 ah4 v4, wHouse E a5 v5, wSight E a6 v6, wSight E a7 v7, wBest E a8 (rf2 (a9 0) (a10 0)) v8, wHouse E a9 v9, wSight E a10 v10, wIntr E a11 v11, wToks E a12 v12, wHRead E a13 (rf1 (a12 0)), wQRead E a14 (rf3 (a12 0) q15 q16) v14, wArr E q15 12 v15, wArr E q16 12 v16, wModel E a17 (rf2 (a17 1) q18) v17, wNm E q18, wLon E q19 v19] := by
  rw [Law_754] at hf
  refine ww_aload_n C dL_law_754 rfl 1 rfl ?_
  refine ww_aload_n C dL_law_755 rfl 0 rfl ?_
  refine ww_iload C dL_law_756 4 rfl ?_
  refine ww_iconst (v := 1) C dL_law_758 (by decide) ?_
  refine ww_iadd C dL_law_759 ?_
  obtain ⟨g_128, hf⟩ := gdE hf
  refine ww_sld C S0 (inB_vp g_128) dL_law_760 ?_
  refine ww_aload_n C dL_law_761 rfl 0 rfl ?_
  refine ww_iload C dL_law_762 4 rfl ?_
  refine ww_iconst (v := 2) C dL_law_764 (by decide) ?_
  refine ww_iadd C dL_law_765 ?_
  obtain ⟨g_129, hf⟩ := gdE hf
  refine ww_sld C S0 (inB_vp g_129) dL_law_766 ?_
  refine ww_aload_n C dL_law_767 rfl 3 rfl ?_
  obtain ⟨p768, hp768, hf⟩ := bdE hf
  refine ww_callSL C T0 (As := [.ref (a0 0), .int (xs (Int32.toNatClampNeg (x4 + 1))), .int (xs (Int32.toNatClampNeg (x4 + 2))), .ref q19]) (st := []) (gr := [wHouse E a2 v2, wHist E a3 (rf2 q4 (a5 0)) v3, wHs E q4 ah4 v4, wHouse E a5 v5, wSight E a6 v6, wSight E a7 v7, wBest E a8 (rf2 (a9 0) (a10 0)) v8, wHouse E a9 v9, wSight E a10 v10, wIntr E a11 v11, wToks E a12 v12, wHRead E a13 (rf1 (a12 0)), wQRead E a14 (rf3 (a12 0) q15 q16) v14, wArr E q15 12 v15, wArr E q16 12 v16, wModel E a17 (rf2 (a17 1) q18) v17, wNm E q18]) (c_L_guardsIn (E := E) (a0 := a0) (h0_1 := a2 0) (h0_2 := a3 0) (h0_3 := a6 0) (h0_4 := a7 0) (h0_5 := a8 0) (h0_6 := a11 0) (h0_7 := a12 0) (h0_8 := a13 0) (h0_9 := a14 0) (a1 := a1) (q2 := q19) hp768) gL_law_L_guardsIn rfl ysk_L_guardsIn ⟨by decide, by decide⟩ ⟨by show c + 2 ≤ 601024; omega, by show s + 12 ≤ 7293034; omega⟩ [0, 1, 19] [2, 3, 4, 5, 6, 7, 8, 9, 10, 11, 12, 13, 14, 15, 16, 17, 18] 20 rfl (by decide) rfl rfl (Nat.le_of_ble_eq_true rfl) dL_law_768 ?_
  rintro _ _ ⟨rfl, rfl⟩
  refine ww_perm (gs' := [wGW E a0 (rf10 (a1 0) (a2 0) (a3 0) (a6 0) (a7 0) (a8 0) (a11 0) (a12 0) (a13 0) (a14 0)) v0, wHouse E a1 v1, wHouse E a2 v2, wHist E a3 (rf2 q4 (a5 0)) v3, wHs E q4 ah4 v4, wHouse E a5 v5, wSight E a6 v6, wSight E a7 v7, wBest E a8 (rf2 (a9 0) (a10 0)) v8, wHouse E a9 v9, wSight E a10 v10, wIntr E a11 v11, wToks E a12 v12, wHRead E a13 (rf1 (a12 0)), wQRead E a14 (rf3 (a12 0) q15 q16) v14, wArr E q15 12 v15, wArr E q16 12 v16, wModel E a17 (rf2 (a17 1) q18) v17, wNm E q18, wLon E q19 p768.2]) [0, 1, 3, 4, 5, 6, 7, 8, 9, 10, 11, 12, 13, 14, 15, 16, 17, 18, 19, 2] 20 rfl (by decide) rfl ?_
  refine ww_istore (lv' := [(5, .int p768.1), (0, .ref bS), (1, .ref (a0 0)), (2, .ref (a17 0)), (3, .ref q19), (4, .int x4)]) C dL_law_771 (by decide) rfl ?_
  refine ww_aload_n C dL_law_773 rfl 3 rfl ?_
  refine ww_aload_n C dL_law_774 rfl 1 rfl ?_
  refine ww_iload C dL_law_775 5 rfl ?_
  refine ww_iconst (v := 1) C dL_law_777 (by decide) ?_
  refine ww_iadd C dL_law_778 ?_
  refine ww_sld C S0 (inB_vp g_128) dL_law_779 ?_
  refine ww_aload_n C dL_law_780 rfl 1 rfl ?_
  refine ww_iload C dL_law_781 5 rfl ?_
  refine ww_iconst (v := 2) C dL_law_783 (by decide) ?_
  refine ww_iadd C dL_law_784 ?_
  refine ww_sld C S0 (inB_vp g_129) dL_law_785 ?_
  obtain ⟨p786, hp786, hf⟩ := bdE hf
  refine ww_callV C (As := [.int (xs (Int32.toNatClampNeg (x4 + 1))), .int (xs (Int32.toNatClampNeg (x4 + 2)))]) (st := []) (gr := [wGW E a0 (rf10 (a1 0) (a2 0) (a3 0) (a6 0) (a7 0) (a8 0) (a11 0) (a12 0) (a13 0) (a14 0)) v0, wHouse E a1 v1, wHouse E a2 v2, wHist E a3 (rf2 q4 (a5 0)) v3, wHs E q4 ah4 v4, wHouse E a5 v5, wSight E a6 v6, wSight E a7 v7, wBest E a8 (rf2 (a9 0) (a10 0)) v8, wHouse E a9 v9, wSight E a10 v10, wIntr E a11 v11, wToks E a12 v12, wHRead E a13 (rf1 (a12 0)), wQRead E a14 (rf3 (a12 0) q15 q16) v14, wArr E q15 12 v15, wArr E q16 12 v16, wNm E q18, wLon E q19 p768.2]) (c_X9_guardsIn (E := E) (a0 := a17) (h0_1 := q18) hp786) gL_law_X9_guardsIn rfl yk_X9_guardsIn ⟨by decide, by decide⟩ ⟨by show c + 2 + 0 ≤ 601024; omega, by show s + 12 + 0 ≤ 7293034; omega⟩ clOK9 0 0 rfl rfl [17] [0, 1, 2, 3, 4, 5, 6, 7, 8, 9, 10, 11, 12, 13, 14, 15, 16, 18, 19] 20 rfl (by decide) rfl rfl (Nat.le_of_ble_eq_true rfl) dL_law_786 ?_
  rintro _ _ ⟨rfl, rfl⟩
  refine ww_perm (gs' := [wGW E a0 (rf10 (a1 0) (a2 0) (a3 0) (a6 0) (a7 0) (a8 0) (a11 0) (a12 0) (a13 0) (a14 0)) v0, wHouse E a1 v1, wHouse E a2 v2, wHist E a3 (rf2 q4 (a5 0)) v3, wHs E q4 ah4 v4, wHouse E a5 v5, wSight E a6 v6, wSight E a7 v7, wBest E a8 (rf2 (a9 0) (a10 0)) v8, wHouse E a9 v9, wSight E a10 v10, wIntr E a11 v11, wToks E a12 v12, wHRead E a13 (rf1 (a12 0)), wQRead E a14 (rf3 (a12 0) q15 q16) v14, wArr E q15 12 v15, wArr E q16 12 v16, wModel E a17 (rf2 (a17 1) q18) p786.2, wNm E q18, wLon E q19 p768.2]) [1, 2, 3, 4, 5, 6, 7, 8, 9, 10, 11, 12, 13, 14, 15, 16, 17, 0, 18, 19] 20 rfl (by decide) rfl ?_
  refine ww_istore (lv' := [(6, .int p786.1), (5, .int p768.1), (0, .ref bS), (1, .ref (a0 0)), (2, .ref (a17 0)), (3, .ref q19), (4, .int x4)]) C dL_law_789 (by decide) rfl ?_
  refine ww_aload_n C dL_law_791 rfl 4 rfl ?_
  obtain ⟨p792, hp792, hf⟩ := bdE hf
  refine ww_callV C (As := []) (st := []) (gr := [wGW E a0 (rf10 (a1 0) (a2 0) (a3 0) (a6 0) (a7 0) (a8 0) (a11 0) (a12 0) (a13 0) (a14 0)) v0, wHouse E a1 v1, wHouse E a2 v2, wHist E a3 (rf2 q4 (a5 0)) v3, wHs E q4 ah4 v4, wHouse E a5 v5, wSight E a6 v6, wSight E a7 v7, wBest E a8 (rf2 (a9 0) (a10 0)) v8, wHouse E a9 v9, wSight E a10 v10, wIntr E a11 v11, wToks E a12 v12, wHRead E a13 (rf1 (a12 0)), wQRead E a14 (rf3 (a12 0) q15 q16) v14, wArr E q15 12 v15, wArr E q16 12 v16, wNm E q18, wLon E q19 p768.2]) (c_X9_thrown (E := E) (a0 := a17) (h0_0 := a17 1) (h0_1 := q18) hp792) gL_law_X9_thrown rfl yk_X9_thrown ⟨by decide, by decide⟩ ⟨by show c + 2 + 0 + 0 ≤ 601024; omega, by show s + 12 + 0 + 0 ≤ 7293034; omega⟩ clOK9 0 0 rfl rfl [17] [0, 1, 2, 3, 4, 5, 6, 7, 8, 9, 10, 11, 12, 13, 14, 15, 16, 18, 19] 20 rfl (by decide) rfl rfl (Nat.le_of_ble_eq_true rfl) dL_law_792 ?_
  rintro _ _ ⟨rfl, rfl⟩
  refine ww_perm (gs' := [wGW E a0 (rf10 (a1 0) (a2 0) (a3 0) (a6 0) (a7 0) (a8 0) (a11 0) (a12 0) (a13 0) (a14 0)) v0, wHouse E a1 v1, wHouse E a2 v2, wHist E a3 (rf2 q4 (a5 0)) v3, wHs E q4 ah4 v4, wHouse E a5 v5, wSight E a6 v6, wSight E a7 v7, wBest E a8 (rf2 (a9 0) (a10 0)) v8, wHouse E a9 v9, wSight E a10 v10, wIntr E a11 v11, wToks E a12 v12, wHRead E a13 (rf1 (a12 0)), wQRead E a14 (rf3 (a12 0) q15 q16) v14, wArr E q15 12 v15, wArr E q16 12 v16, wModel E a17 (rf2 (a17 1) q18) p786.2, wNm E q18, wLon E q19 p768.2]) [1, 2, 3, 4, 5, 6, 7, 8, 9, 10, 11, 12, 13, 14, 15, 16, 17, 0, 18, 19] 20 rfl (by decide) rfl ?_
  refine ww_iload C dL_law_795 1 rfl ?_
  refine ww_icmp_eq (tgt := 802) C dL_law_797 (by decide) (fun c_130 => ?_) (fun c_130 => ?_)
  · replace hf := ifT c_130 hf
    refine ww_iload C dL_law_802 1 rfl ?_
    refine ww_if_ne (tgt := 819) C dL_law_804 (by decide) (fun c_131 => ?_) (fun c_131 => ?_)
    · replace hf := ifF c_131 hf
      refine ww_goto (tgt := 2229) C dL_law_819 (by decide) ?_
      obtain ⟨x4_2229, e_x4_2229⟩ : ∃ y : Int32, y = x4 + 6 := ⟨_, rfl⟩
      replace hf := ltE e_x4_2229 hf
      refine ww_iinc (v := x4_2229) (lv' := [(4, .int x4_2229), (6, .int p786.1), (5, .int p768.1), (0, .ref bS), (1, .ref (a0 0)), (2, .ref (a17 0)), (3, .ref q19)]) C dL_law_2229 6 rfl (by rw [e_x4_2229]; rfl) (by decide) rfl ?_
      refine ww_goto (tgt := 23) C dL_law_2232 (by decide) ?_
      refine ww_sub C (lv' := [(0, .ref bS), (1, .ref (a0 0)), (2, .ref (a17 0)), (3, .ref q19), (4, .int x4_2229)]) [3, 4, 5, 6, 0] rfl ?_
      refine ww_widen (k := c + 3) (n := s + 18) (by show c + 2 + 0 + 0 ≤ c + 3; omega) (by show s + 12 + 0 + 0 ≤ s + 18; omega) ?_
      exact hk23 _ _ _ _ _ _ _ _ _ _ _ _ _ _ _ _ _ _ _ hf
    · replace hf := ifT c_131 hf
      refine ww_aload_n C dL_law_807 rfl 5 rfl ?_
      refine ww_iconst (v := 0) C dL_law_808 (by decide) ?_
      obtain ⟨g_132, hf⟩ := gdE hf
      refine ww_lald C (f := p768.2) (w := wLon E q19 p768.2) 19 0 rfl q_Lon (inB_vp g_132) dL_law_809 ?_
      refine ww_iload C dL_law_810 0 rfl ?_
      refine ww_i2l C dL_law_812 ?_
      refine ww_lcmp C dL_law_813 ?_
      refine ww_if_eq (tgt := 819) C dL_law_814 (by decide) (fun c_133 => ?_) (fun c_133 => ?_)
      · replace hf := ifT c_133 hf
        refine ww_goto (tgt := 2229) C dL_law_819 (by decide) ?_
        obtain ⟨x4_2229, e_x4_2229⟩ : ∃ y : Int32, y = x4 + 6 := ⟨_, rfl⟩
        replace hf := ltE e_x4_2229 hf
        refine ww_iinc (v := x4_2229) (lv' := [(4, .int x4_2229), (6, .int p786.1), (5, .int p768.1), (0, .ref bS), (1, .ref (a0 0)), (2, .ref (a17 0)), (3, .ref q19)]) C dL_law_2229 6 rfl (by rw [e_x4_2229]; rfl) (by decide) rfl ?_
        refine ww_goto (tgt := 23) C dL_law_2232 (by decide) ?_
        refine ww_sub C (lv' := [(0, .ref bS), (1, .ref (a0 0)), (2, .ref (a17 0)), (3, .ref q19), (4, .int x4_2229)]) [3, 4, 5, 6, 0] rfl ?_
        refine ww_widen (k := c + 3) (n := s + 18) (by show c + 2 + 0 + 0 ≤ c + 3; omega) (by show s + 12 + 0 + 0 ≤ s + 18; omega) ?_
        exact hk23 _ _ _ _ _ _ _ _ _ _ _ _ _ _ _ _ _ _ _ hf
      · replace hf := ifF c_133 hf
        refine ww_iconst (v := 0) C dL_law_817 (by decide) ?_
        cases hf
  · replace hf := ifF c_130 hf
    refine ww_iconst (v := 0) C dL_law_800 (by decide) ?_
    cases hf

