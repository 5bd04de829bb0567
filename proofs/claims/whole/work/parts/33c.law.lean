section WWd
variable {E : Ex} {K : Kx} {cc : ByteArray} {nL : Nat} {ret : Option FieldType} {own : String} {Ts : List Cond} {rm : Room} {cells slots : Nat} {Q : State → Prop} {pc : Nat} {lv : List (Nat × Value)} {st : List Value} {gs : List va_W}
theorem ww_dload (C : Cx E K cc nL ret own Ts rm) {i : Nat} {x : UInt64} (hd : decode cc pc = .ok (.dload i, 2)) (k : Nat) (hk : lv[k]? = some (i, .double x)) (kk : WW E K cells slots Q (pc + 2) lv (.double x :: st) gs) : WW E K cells slots Q pc lv st gs := by
  obtain ⟨p, e, R, s, m, args, below, meth, c, A⟩ := K
  obtain ⟨⟨hx, hb, hml, hr, hown⟩, hts, hlk, hK, hA, hX, hR⟩ := C
  intro H locs ls hP hD hS hl
  exact lv_dload hx hb hd (lv_at hl k hk) (kk H locs ls hP hD hS hl)
theorem ww_dstore (C : Cx E K cc nL ret own Ts rm) {i : Nat} {x : UInt64} {lv' : List (Nat × Value)} (hd : decode cc pc = .ok (.dstore i, 2)) (hn : i + 1 < nL) (hl' : (i, Value.double x) :: lv.filter (fun q => !(q.1 == i) && (!(q.1 == i + 1) && !(q.1 + 1 == i && q.2.category == 2))) = lv') (kk : WW E K cells slots Q (pc + 2) lv' st gs) : WW E K cells slots Q pc lv (.double x :: st) gs := by
  obtain ⟨p, e, R, s, m, args, below, meth, c, A⟩ := K
  obtain ⟨⟨hx, hb, hml, hr, hown⟩, hts, hlk, hK, hA, hX, hR⟩ := C
  intro H locs ls hP hD hS hl
  exact lv_dstore hx hb hd hl (by rw [hml]; exact hn) hl' (fun ls' hl' => kk H locs ls' hP hD hS hl')
end WWd
set_option maxHeartbeats 8000000 in
set_option maxRecDepth 100000 in
theorem w_L_law_1399 {E : Ex} {K : Kx} (C : Cx E K cL_law 9 (some .boolean) RL wsL_law rmL_law) {a0 : Nat → Nat} {a1 : Nat → Nat} {a2 : Nat → Nat} {a3 : Nat → Nat} {q4 : Nat} {ah4 : Nat → Nat → Nat} {a5 : Nat → Nat} {a6 : Nat → Nat} {a7 : Nat → Nat} {a8 : Nat → Nat} {a9 : Nat → Nat} {a10 : Nat → Nat} {a11 : Nat → Nat} {a12 : Nat → Nat} {a13 : Nat → Nat} {a14 : Nat → Nat} {q15 : Nat} {q16 : Nat} {a17 : Nat → Nat} {q18 : Nat} {q19 : Nat} {bS L : Nat} {xs : Nat → Int32} {Q : State → Prop} (T0 : TL E K) (S0 : SX bS L xs K) (HR : ∀ (c s : Nat) (lv : List (Nat × Value)) (gs : List va_W), c ≤ 601024 → s ≤ 7293034 → WW E K c s Q 2236 lv [.int 1] gs) {c s : Nat} (hc : c + 3 ≤ 601024) (hs : s + 18 ≤ 7293034) {k23 : Int32 → GWV → HouseV → HouseV → HistV → (Nat → HouseV) → HouseV → SightV → SightV → BestV → HouseV → SightV → IntrV → ToksV → QReadV → (Nat → Int32) → (Nat → Int32) → ModelV → (Nat → Int64) → Option Unit} (hk23 : ∀ (x4 : Int32) (v0 : GWV) (v1 : HouseV) (v2 : HouseV) (v3 : HistV) (v4 : Nat → HouseV) (v5 : HouseV) (v6 : SightV) (v7 : SightV) (v8 : BestV) (v9 : HouseV) (v10 : SightV) (v11 : IntrV) (v12 : ToksV) (v14 : QReadV) (v15 : Nat → Int32) (v16 : Nat → Int32) (v17 : ModelV) (v19 : Nat → Int64), k23 x4 v0 v1 v2 v3 v4 v5 v6 v7 v8 v9 v10 v11 v12 v14 v15 v16 v17 v19 = some () → WW E K (c + 3) (s + 18) Q 23 [(0, .ref bS), (1, .ref (a0 0)), (2, .ref (a17 0)), (3, .ref q19), (4, .int x4)] [] [wGW E a0 (rf10 (a1 0) (a2 0) (a3 0) (a6 0) (a7 0) (a8 0) (a11 0) (a12 0) (a13 0) (a14 0)) v0, wHouse E a1 v1, wHouse E a2 v2, wHist E a3 (rf2 q4 (a5 0)) v3, wHs E q4 ah4 v4, wHouse E a5 v5, wSight E a6 v6, wSight E a7 v7, wBest E a8 (rf2 (a9 0) (a10 0)) v8, wHouse E a9 v9, wSight E a10 v10, wIntr E a11 v11, wToks E a12 v12, wHRead E a13 (rf1 (a12 0)), wQRead E a14 (rf3 (a12 0) q15 q16) v14, wArr E q15 12 v15, wArr E q16 12 v16, wModel E a17 (rf2 (a17 1) q18) v17, wNm E q18, wLon E q19 v19]) {x4 : Int32} {v0 : GWV} {v1 : HouseV} {v2 : HouseV} {v3 : HistV} {v4 : Nat → HouseV} {v5 : HouseV} {v6 : SightV} {v7 : SightV} {v8 : BestV} {v9 : HouseV} {v10 : SightV} {v11 : IntrV} {v12 : ToksV} {v14 : QReadV} {v15 : Nat → Int32} {v16 : Nat → Int32} {v17 : ModelV} {v19 : Nat → Int64} (hf : Law_1399 L xs k23 x4 v0 v1 v2 v3 v4 v5 v6 v7 v8 v9 v10 v11 v12 v14 v15 v16 v17 v19 = some ()) : WW E K c s Q 1399 [(0, .ref bS), (1, .ref (a0 0)), (2, .ref (a17 0)), (3, .ref q19), (4, .int x4)] [] [wGW E a0 (rf10 (a1 0) (a2 0) (a3 0) (a6 0) (a7 0) (a8 0) (a11 0) (a12 0) (a13 0) (a14 0)) v0, wHouse E a1 v1, wHouse E a2 v2, wHist E a3 (rf2 q4 (a5 0)) v3, wHs E q4 ah4 v4, wHouse E a5 v5, wSight E a6 v6, wSight E a7 v7, wBest E a8 (rf2 (a9 0) (a10 0)) v8, wHouse E a9 v9, wSight E a10 v10, wIntr E a11 v11, wToks E a12 v12, wHRead E a13 (rf1 (a12 0)), wQRead E a14 (rf3 (a12 0) q15 q16) v14, wArr E q15 12 v15, wArr E q16 12 v16, wModel E a17 (rf2 (a17 1) q18) v17, wNm E q18, wLon E q19 v19] := by
  rw [Law_1399] at hf
  refine ww_aload_n C dL_law_1399 rfl 1 rfl ?_
  refine ww_aload_n C dL_law_1400 rfl 0 rfl ?_
  refine ww_iload C dL_law_1401 4 rfl ?_
  refine ww_iconst (v := 1) C dL_law_1403 (by decide) ?_
  refine ww_iadd C dL_law_1404 ?_
  obtain ⟨g_70, hf⟩ := gdE hf
  refine ww_sld C S0 (inB_vp g_70) dL_law_1405 ?_
  refine ww_aload_n C dL_law_1406 rfl 3 rfl ?_
  obtain ⟨p1407, hp1407, hf⟩ := bdE hf
  refine ww_callSL C T0 (As := [.ref (a0 0), .int (xs (Int32.toNatClampNeg (x4 + 1))), .ref q19]) (st := []) (gr := [wHouse E a2 v2, wHist E a3 (rf2 q4 (a5 0)) v3, wHs E q4 ah4 v4, wHouse E a5 v5, wSight E a6 v6, wSight E a7 v7, wIntr E a11 v11, wToks E a12 v12, wHRead E a13 (rf1 (a12 0)), wQRead E a14 (rf3 (a12 0) q15 q16) v14, wArr E q15 12 v15, wArr E q16 12 v16, wModel E a17 (rf2 (a17 1) q18) v17, wNm E q18]) (c_L_bestPhase (E := E) (a0 := a0) (h0_1 := a2 0) (h0_2 := a3 0) (h0_3 := a6 0) (h0_4 := a7 0) (h0_6 := a11 0) (h0_7 := a12 0) (h0_8 := a13 0) (h0_9 := a14 0) (a1 := a1) (a2 := a8) (a3 := a9) (a4 := a10) (q5 := q19) hp1407) gL_law_L_bestPhase rfl ysk_L_bestPhase ⟨by decide, by decide⟩ ⟨by show c + 1 ≤ 601024; omega, by show s + 6 ≤ 7293034; omega⟩ [0, 1, 8, 9, 10, 19] [2, 3, 4, 5, 6, 7, 11, 12, 13, 14, 15, 16, 17, 18] 20 rfl (by decide) rfl rfl (Nat.le_of_ble_eq_true rfl) dL_law_1407 ?_
  rintro _ _ ⟨rfl, rfl⟩
  refine ww_perm (gs' := [wGW E a0 (rf10 (a1 0) (a2 0) (a3 0) (a6 0) (a7 0) (a8 0) (a11 0) (a12 0) (a13 0) (a14 0)) v0, wHouse E a1 v1, wHouse E a2 v2, wHist E a3 (rf2 q4 (a5 0)) v3, wHs E q4 ah4 v4, wHouse E a5 v5, wSight E a6 v6, wSight E a7 v7, wBest E a8 (rf2 (a9 0) (a10 0)) p1407.2.1, wHouse E a9 p1407.2.2.1, wSight E a10 p1407.2.2.2.1, wIntr E a11 v11, wToks E a12 v12, wHRead E a13 (rf1 (a12 0)), wQRead E a14 (rf3 (a12 0) q15 q16) v14, wArr E q15 12 v15, wArr E q16 12 v16, wModel E a17 (rf2 (a17 1) q18) v17, wNm E q18, wLon E q19 p1407.2.2.2.2]) [0, 1, 6, 7, 8, 9, 10, 11, 2, 3, 4, 12, 13, 14, 15, 16, 17, 18, 19, 5] 20 rfl (by decide) rfl ?_
  refine ww_istore (lv' := [(5, .int p1407.1), (0, .ref bS), (1, .ref (a0 0)), (2, .ref (a17 0)), (3, .ref q19), (4, .int x4)]) C dL_law_1410 (by decide) rfl ?_
  refine ww_aload_n C dL_law_1412 rfl 3 rfl ?_
  refine ww_aload_n C dL_law_1413 rfl 1 rfl ?_
  refine ww_iload C dL_law_1414 5 rfl ?_
  refine ww_iconst (v := 1) C dL_law_1416 (by decide) ?_
  refine ww_iadd C dL_law_1417 ?_
  refine ww_sld C S0 (inB_vp g_70) dL_law_1418 ?_
  obtain ⟨p1419, hp1419, hf⟩ := bdE hf
  refine ww_callV C (As := [.int (xs (Int32.toNatClampNeg (x4 + 1)))]) (st := []) (gr := [wGW E a0 (rf10 (a1 0) (a2 0) (a3 0) (a6 0) (a7 0) (a8 0) (a11 0) (a12 0) (a13 0) (a14 0)) v0, wHouse E a1 v1, wHouse E a2 v2, wHist E a3 (rf2 q4 (a5 0)) v3, wHs E q4 ah4 v4, wHouse E a5 v5, wSight E a6 v6, wSight E a7 v7, wBest E a8 (rf2 (a9 0) (a10 0)) p1407.2.1, wHouse E a9 p1407.2.2.1, wSight E a10 p1407.2.2.2.1, wIntr E a11 v11, wToks E a12 v12, wHRead E a13 (rf1 (a12 0)), wQRead E a14 (rf3 (a12 0) q15 q16) v14, wArr E q15 12 v15, wArr E q16 12 v16, wNm E q18, wLon E q19 p1407.2.2.2.2]) (c_X9_bestPhase (E := E) (a0 := a17) (h0_1 := q18) hp1419) gL_law_X9_bestPhase rfl yk_X9_bestPhase ⟨by decide, by decide⟩ ⟨by show c + 1 + 0 ≤ 601024; omega, by show s + 6 + 0 ≤ 7293034; omega⟩ clOK9 0 0 rfl rfl [17] [0, 1, 2, 3, 4, 5, 6, 7, 8, 9, 10, 11, 12, 13, 14, 15, 16, 18, 19] 20 rfl (by decide) rfl rfl (Nat.le_of_ble_eq_true rfl) dL_law_1419 ?_
  rintro _ _ ⟨rfl, rfl⟩
  refine ww_perm (gs' := [wGW E a0 (rf10 (a1 0) (a2 0) (a3 0) (a6 0) (a7 0) (a8 0) (a11 0) (a12 0) (a13 0) (a14 0)) v0, wHouse E a1 v1, wHouse E a2 v2, wHist E a3 (rf2 q4 (a5 0)) v3, wHs E q4 ah4 v4, wHouse E a5 v5, wSight E a6 v6, wSight E a7 v7, wBest E a8 (rf2 (a9 0) (a10 0)) p1407.2.1, wHouse E a9 p1407.2.2.1, wSight E a10 p1407.2.2.2.1, wIntr E a11 v11, wToks E a12 v12, wHRead E a13 (rf1 (a12 0)), wQRead E a14 (rf3 (a12 0) q15 q16) v14, wArr E q15 12 v15, wArr E q16 12 v16, wModel E a17 (rf2 (a17 1) q18) p1419.2, wNm E q18, wLon E q19 p1407.2.2.2.2]) [1, 2, 3, 4, 5, 6, 7, 8, 9, 10, 11, 12, 13, 14, 15, 16, 17, 0, 18, 19] 20 rfl (by decide) rfl ?_
  refine ww_istore (lv' := [(6, .int p1419.1), (5, .int p1407.1), (0, .ref bS), (1, .ref (a0 0)), (2, .ref (a17 0)), (3, .ref q19), (4, .int x4)]) C dL_law_1422 (by decide) rfl ?_
  refine ww_aload_n C dL_law_1424 rfl 4 rfl ?_
  obtain ⟨p1425, hp1425, hf⟩ := bdE hf
  refine ww_callV C (As := []) (st := []) (gr := [wGW E a0 (rf10 (a1 0) (a2 0) (a3 0) (a6 0) (a7 0) (a8 0) (a11 0) (a12 0) (a13 0) (a14 0)) v0, wHouse E a1 v1, wHouse E a2 v2, wHist E a3 (rf2 q4 (a5 0)) v3, wHs E q4 ah4 v4, wHouse E a5 v5, wSight E a6 v6, wSight E a7 v7, wBest E a8 (rf2 (a9 0) (a10 0)) p1407.2.1, wHouse E a9 p1407.2.2.1, wSight E a10 p1407.2.2.2.1, wIntr E a11 v11, wToks E a12 v12, wHRead E a13 (rf1 (a12 0)), wQRead E a14 (rf3 (a12 0) q15 q16) v14, wArr E q15 12 v15, wArr E q16 12 v16, wNm E q18, wLon E q19 p1407.2.2.2.2]) (c_X9_thrown (E := E) (a0 := a17) (h0_0 := a17 1) (h0_1 := q18) hp1425) gL_law_X9_thrown rfl yk_X9_thrown ⟨by decide, by decide⟩ ⟨by show c + 1 + 0 + 0 ≤ 601024; omega, by show s + 6 + 0 + 0 ≤ 7293034; omega⟩ clOK9 0 0 rfl rfl [17] [0, 1, 2, 3, 4, 5, 6, 7, 8, 9, 10, 11, 12, 13, 14, 15, 16, 18, 19] 20 rfl (by decide) rfl rfl (Nat.le_of_ble_eq_true rfl) dL_law_1425 ?_
  rintro _ _ ⟨rfl, rfl⟩
  refine ww_perm (gs' := [wGW E a0 (rf10 (a1 0) (a2 0) (a3 0) (a6 0) (a7 0) (a8 0) (a11 0) (a12 0) (a13 0) (a14 0)) v0, wHouse E a1 v1, wHouse E a2 v2, wHist E a3 (rf2 q4 (a5 0)) v3, wHs E q4 ah4 v4, wHouse E a5 v5, wSight E a6 v6, wSight E a7 v7, wBest E a8 (rf2 (a9 0) (a10 0)) p1407.2.1, wHouse E a9 p1407.2.2.1, wSight E a10 p1407.2.2.2.1, wIntr E a11 v11, wToks E a12 v12, wHRead E a13 (rf1 (a12 0)), wQRead E a14 (rf3 (a12 0) q15 q16) v14, wArr E q15 12 v15, wArr E q16 12 v16, wModel E a17 (rf2 (a17 1) q18) p1419.2, wNm E q18, wLon E q19 p1407.2.2.2.2]) [1, 2, 3, 4, 5, 6, 7, 8, 9, 10, 11, 12, 13, 14, 15, 16, 17, 0, 18, 19] 20 rfl (by decide) rfl ?_
  refine ww_iload C dL_law_1428 1 rfl ?_
  refine ww_icmp_eq (tgt := 1435) C dL_law_1430 (by decide) (fun c_71 => ?_) (fun c_71 => ?_)
  · replace hf := ifT c_71 hf
    refine ww_iload C dL_law_1435 1 rfl ?_
    refine ww_if_ne (tgt := 1452) C dL_law_1437 (by decide) (fun c_72 => ?_) (fun c_72 => ?_)
    · replace hf := ifF c_72 hf
      refine ww_goto (tgt := 2229) C dL_law_1452 (by decide) ?_
      obtain ⟨x4_2229, e_x4_2229⟩ : ∃ y : Int32, y = x4 + 6 := ⟨_, rfl⟩
      replace hf := ltE e_x4_2229 hf
      refine ww_iinc (v := x4_2229) (lv' := [(4, .int x4_2229), (6, .int p1419.1), (5, .int p1407.1), (0, .ref bS), (1, .ref (a0 0)), (2, .ref (a17 0)), (3, .ref q19)]) C dL_law_2229 6 rfl (by rw [e_x4_2229]; rfl) (by decide) rfl ?_
      refine ww_goto (tgt := 23) C dL_law_2232 (by decide) ?_
      refine ww_sub C (lv' := [(0, .ref bS), (1, .ref (a0 0)), (2, .ref (a17 0)), (3, .ref q19), (4, .int x4_2229)]) [3, 4, 5, 6, 0] rfl ?_
      refine ww_widen (k := c + 3) (n := s + 18) (by show c + 1 + 0 + 0 ≤ c + 3; omega) (by show s + 6 + 0 + 0 ≤ s + 18; omega) ?_
      exact hk23 _ _ _ _ _ _ _ _ _ _ _ _ _ _ _ _ _ _ _ hf
    · replace hf := ifT c_72 hf
      refine ww_aload_n C dL_law_1440 rfl 5 rfl ?_
      refine ww_iconst (v := 0) C dL_law_1441 (by decide) ?_
      obtain ⟨g_73, hf⟩ := gdE hf
      refine ww_lald C (f := p1407.2.2.2.2) (w := wLon E q19 p1407.2.2.2.2) 19 0 rfl q_Lon (inB_vp g_73) dL_law_1442 ?_
      refine ww_iload C dL_law_1443 0 rfl ?_
      refine ww_i2l C dL_law_1445 ?_
      refine ww_lcmp C dL_law_1446 ?_
      refine ww_if_eq (tgt := 1452) C dL_law_1447 (by decide) (fun c_74 => ?_) (fun c_74 => ?_)
      · replace hf := ifT c_74 hf
        refine ww_goto (tgt := 2229) C dL_law_1452 (by decide) ?_
        obtain ⟨x4_2229, e_x4_2229⟩ : ∃ y : Int32, y = x4 + 6 := ⟨_, rfl⟩
        replace hf := ltE e_x4_2229 hf
        refine ww_iinc (v := x4_2229) (lv' := [(4, .int x4_2229), (6, .int p1419.1), (5, .int p1407.1), (0, .ref bS), (1, .ref (a0 0)), (2, .ref (a17 0)), (3, .ref q19)]) C dL_law_2229 6 rfl (by rw [e_x4_2229]; rfl) (by decide) rfl ?_
        refine ww_goto (tgt := 23) C dL_law_2232 (by decide) ?_
        refine ww_sub C (lv' := [(0, .ref bS), (1, .ref (a0 0)), (2, .ref (a17 0)), (3, .ref q19), (4, .int x4_2229)]) [3, 4, 5, 6, 0] rfl ?_
        refine ww_widen (k := c + 3) (n := s + 18) (by show c + 1 + 0 + 0 ≤ c + 3; omega) (by show s + 6 + 0 + 0 ≤ s + 18; omega) ?_
        exact hk23 _ _ _ _ _ _ _ _ _ _ _ _ _ _ _ _ _ _ _ hf
      · replace hf := ifF c_74 hf
        refine ww_iconst (v := 0) C dL_law_1450 (by decide) ?_
        cases hf
  · replace hf := ifF c_71 hf
    refine ww_iconst (v := 0) C dL_law_1433 (by decide) ?_
    cases hf

set_option maxHeartbeats 8000000 in
set_option maxRecDepth 100000 in
theorem w_L_law_1455 {E : Ex} {K : Kx} (C : Cx E K cL_law 9 (some .boolean) RL wsL_law rmL_law) {a0 : Nat → Nat} {a1 : Nat → Nat} {a2 : Nat → Nat} {a3 : Nat → Nat} {q4 : Nat} {ah4 : Nat → Nat → Nat} {a5 : Nat → Nat} {a6 : Nat → Nat} {a7 : Nat → Nat} {a8 : Nat → Nat} {a9 : Nat → Nat} {a10 : Nat → Nat} {a11 : Nat → Nat} {a12 : Nat → Nat} {a13 : Nat → Nat} {a14 : Nat → Nat} {q15 : Nat} {q16 : Nat} {a17 : Nat → Nat} {q18 : Nat} {q19 : Nat} {bS L : Nat} {xs : Nat → Int32} {Q : State → Prop} (T0 : TL E K) (S0 : SX bS L xs K) (HR : ∀ (c s : Nat) (lv : List (Nat × Value)) (gs : List va_W), c ≤ 601024 → s ≤ 7293034 → WW E K c s Q 2236 lv [.int 1] gs) {c s : Nat} (hc : c + 3 ≤ 601024) (hs : s + 18 ≤ 7293034) {k23 : Int32 → GWV → HouseV → HouseV → HistV → (Nat → HouseV) → HouseV → SightV → SightV → BestV → HouseV → SightV → IntrV → ToksV → QReadV → (Nat → Int32) → (Nat → Int32) → ModelV → (Nat → Int64) → Option Unit} (hk23 : ∀ (x4 : Int32) (v0 : GWV) (v1 : HouseV) (v2 : HouseV) (v3 : HistV) (v4 : Nat → HouseV) (v5 : HouseV) (v6 : SightV) (v7 : SightV) (v8 : BestV) (v9 : HouseV) (v10 : SightV) (v11 : IntrV) (v12 : ToksV) (v14 : QReadV) (v15 : Nat → Int32) (v16 : Nat → Int32) (v17 : ModelV) (v19 : Nat → Int64), k23 x4 v0 v1 v2 v3 v4 v5 v6 v7 v8 v9 v10 v11 v12 v14 v15 v16 v17 v19 = some () → WW E K (c + 3) (s + 18) Q 23 [(0, .ref bS), (1, .ref (a0 0)), (2, .ref (a17 0)), (3, .ref q19), (4, .int x4)] [] [wGW E a0 (rf10 (a1 0) (a2 0) (a3 0) (a6 0) (a7 0) (a8 0) (a11 0) (a12 0) (a13 0) (a14 0)) v0, wHouse E a1 v1, wHouse E a2 v2, wHist E a3 (rf2 q4 (a5 0)) v3, wHs E q4 ah4 v4, wHouse E a5 v5, wSight E a6 v6, wSight E a7 v7, wBest E a8 (rf2 (a9 0) (a10 0)) v8, wHouse E a9 v9, wSight E a10 v10, wIntr E a11 v11, wToks E a12 v12, wHRead E a13 (rf1 (a12 0)), wQRead E a14 (rf3 (a12 0) q15 q16) v14, wArr E q15 12 v15, wArr E q16 12 v16, wModel E a17 (rf2 (a17 1) q18) v17, wNm E q18, wLon E q19 v19]) {x4 : Int32} {v0 : GWV} {v1 : HouseV} {v2 : HouseV} {v3 : HistV} {v4 : Nat → HouseV} {v5 : HouseV} {v6 : SightV} {v7 : SightV} {v8 : BestV} {v9 : HouseV} {v10 : SightV} {v11 : IntrV} {v12 : ToksV} {v14 : QReadV} {v15 : Nat → Int32} {v16 : Nat → Int32} {v17 : ModelV} {v19 : Nat → Int64} (hf : Law_1455 L xs k23 x4 v0 v1 v2 v3 v4 v5 v6 v7 v8 v9 v10 v11 v12 v14 v15 v16 v17 v19 = some ()) : WW E K c s Q 1455 [(0, .ref bS), (1, .ref (a0 0)), (2, .ref (a17 0)), (3, .ref q19), (4, .int x4)] [] [wGW E a0 (rf10 (a1 0) (a2 0) (a3 0) (a6 0) (a7 0) (a8 0) (a11 0) (a12 0) (a13 0) (a14 0)) v0, wHouse E a1 v1, wHouse E a2 v2, wHist E a3 (rf2 q4 (a5 0)) v3, wHs E q4 ah4 v4, wHouse E a5 v5, wSight E a6 v6, wSight E a7 v7, wBest E a8 (rf2 (a9 0) (a10 0)) v8, wHouse E a9 v9, wSight E a10 v10, wIntr E a11 v11, wToks E a12 v12, wHRead E a13 (rf1 (a12 0)), wQRead E a14 (rf3 (a12 0) q15 q16) v14, wArr E q15 12 v15, wArr E q16 12 v16, wModel E a17 (rf2 (a17 1) q18) v17, wNm E q18, wLon E q19 v19] := by
  rw [Law_1455] at hf
  refine ww_aload_n C dL_law_1455 rfl 1 rfl ?_
  refine ww_aload_n C dL_law_1456 rfl 0 rfl ?_
  refine ww_iload C dL_law_1457 4 rfl ?_
  refine ww_iconst (v := 1) C dL_law_1459 (by decide) ?_
  refine ww_iadd C dL_law_1460 ?_
  obtain ⟨g_63, hf⟩ := gdE hf
  refine ww_sld C S0 (inB_vp g_63) dL_law_1461 ?_
  refine ww_aload_n C dL_law_1462 rfl 0 rfl ?_
  refine ww_iload C dL_law_1463 4 rfl ?_
  refine ww_iconst (v := 2) C dL_law_1465 (by decide) ?_
  refine ww_iadd C dL_law_1466 ?_
  obtain ⟨g_64, hf⟩ := gdE hf
  refine ww_sld C S0 (inB_vp g_64) dL_law_1467 ?_
  refine ww_aload_n C dL_law_1468 rfl 0 rfl ?_
  refine ww_iload C dL_law_1469 4 rfl ?_
  refine ww_iconst (v := 3) C dL_law_1471 (by decide) ?_
  refine ww_iadd C dL_law_1472 ?_
  obtain ⟨g_65, hf⟩ := gdE hf
  refine ww_sld C S0 (inB_vp g_65) dL_law_1473 ?_
  refine ww_aload_n C dL_law_1474 rfl 3 rfl ?_
  obtain ⟨p1475, hp1475, hf⟩ := bdE hf
  refine ww_callSL C T0 (As := [.ref (a0 0), .int (xs (Int32.toNatClampNeg (x4 + 1))), .int (xs (Int32.toNatClampNeg (x4 + 2))), .int (xs (Int32.toNatClampNeg (x4 + 3))), .ref q19]) (st := []) (gr := [wHouse E a2 v2, wHist E a3 (rf2 q4 (a5 0)) v3, wHs E q4 ah4 v4, wHouse E a5 v5, wSight E a6 v6, wSight E a7 v7, wBest E a8 (rf2 (a9 0) (a10 0)) v8, wHouse E a9 v9, wSight E a10 v10, wToks E a12 v12, wHRead E a13 (rf1 (a12 0)), wQRead E a14 (rf3 (a12 0) q15 q16) v14, wArr E q15 12 v15, wArr E q16 12 v16, wModel E a17 (rf2 (a17 1) q18) v17, wNm E q18]) (c_L_arrival (E := E) (a0 := a0) (h0_1 := a2 0) (h0_2 := a3 0) (h0_3 := a6 0) (h0_4 := a7 0) (h0_5 := a8 0) (h0_7 := a12 0) (h0_8 := a13 0) (h0_9 := a14 0) (a1 := a1) (a2 := a11) (q3 := q19) hp1475) gL_law_L_arrival rfl ysk_L_arrival ⟨by decide, by decide⟩ ⟨by show c + 3 ≤ 601024; omega, by show s + 18 ≤ 7293034; omega⟩ [0, 1, 11, 19] [2, 3, 4, 5, 6, 7, 8, 9, 10, 12, 13, 14, 15, 16, 17, 18] 20 rfl (by decide) rfl rfl (Nat.le_of_ble_eq_true rfl) dL_law_1475 ?_
  rintro _ _ ⟨rfl, rfl⟩
  refine ww_perm (gs' := [wGW E a0 (rf10 (a1 0) (a2 0) (a3 0) (a6 0) (a7 0) (a8 0) (a11 0) (a12 0) (a13 0) (a14 0)) v0, wHouse E a1 v1, wHouse E a2 v2, wHist E a3 (rf2 q4 (a5 0)) v3, wHs E q4 ah4 v4, wHouse E a5 v5, wSight E a6 v6, wSight E a7 v7, wBest E a8 (rf2 (a9 0) (a10 0)) v8, wHouse E a9 v9, wSight E a10 v10, wIntr E a11 p1475.2.1, wToks E a12 v12, wHRead E a13 (rf1 (a12 0)), wQRead E a14 (rf3 (a12 0) q15 q16) v14, wArr E q15 12 v15, wArr E q16 12 v16, wModel E a17 (rf2 (a17 1) q18) v17, wNm E q18, wLon E q19 p1475.2.2]) [0, 1, 4, 5, 6, 7, 8, 9, 10, 11, 12, 2, 13, 14, 15, 16, 17, 18, 19, 3] 20 rfl (by decide) rfl ?_
  refine ww_istore (lv' := [(5, .int p1475.1), (0, .ref bS), (1, .ref (a0 0)), (2, .ref (a17 0)), (3, .ref q19), (4, .int x4)]) C dL_law_1478 (by decide) rfl ?_
  refine ww_aload_n C dL_law_1480 rfl 3 rfl ?_
  refine ww_aload_n C dL_law_1481 rfl 1 rfl ?_
  refine ww_iload C dL_law_1482 5 rfl ?_
  refine ww_iconst (v := 1) C dL_law_1484 (by decide) ?_
  refine ww_iadd C dL_law_1485 ?_
  refine ww_sld C S0 (inB_vp g_63) dL_law_1486 ?_
  refine ww_aload_n C dL_law_1487 rfl 1 rfl ?_
  refine ww_iload C dL_law_1488 5 rfl ?_
  refine ww_iconst (v := 2) C dL_law_1490 (by decide) ?_
  refine ww_iadd C dL_law_1491 ?_
  refine ww_sld C S0 (inB_vp g_64) dL_law_1492 ?_
  refine ww_aload_n C dL_law_1493 rfl 1 rfl ?_
  refine ww_iload C dL_law_1494 5 rfl ?_
  refine ww_iconst (v := 3) C dL_law_1496 (by decide) ?_
  refine ww_iadd C dL_law_1497 ?_
  refine ww_sld C S0 (inB_vp g_65) dL_law_1498 ?_
  obtain ⟨p1499, hp1499, hf⟩ := bdE hf
  refine ww_callV C (As := [.int (xs (Int32.toNatClampNeg (x4 + 1))), .int (xs (Int32.toNatClampNeg (x4 + 2))), .int (xs (Int32.toNatClampNeg (x4 + 3)))]) (st := []) (gr := [wGW E a0 (rf10 (a1 0) (a2 0) (a3 0) (a6 0) (a7 0) (a8 0) (a11 0) (a12 0) (a13 0) (a14 0)) v0, wHouse E a1 v1, wHouse E a2 v2, wHist E a3 (rf2 q4 (a5 0)) v3, wHs E q4 ah4 v4, wHouse E a5 v5, wSight E a6 v6, wSight E a7 v7, wBest E a8 (rf2 (a9 0) (a10 0)) v8, wHouse E a9 v9, wSight E a10 v10, wIntr E a11 p1475.2.1, wToks E a12 v12, wHRead E a13 (rf1 (a12 0)), wQRead E a14 (rf3 (a12 0) q15 q16) v14, wArr E q15 12 v15, wArr E q16 12 v16, wNm E q18, wLon E q19 p1475.2.2]) (c_X9_arrival (E := E) (a0 := a17) (h0_1 := q18) hp1499) gL_law_X9_arrival rfl yk_X9_arrival ⟨by decide, by decide⟩ ⟨by show c + 3 + 0 ≤ 601024; omega, by show s + 18 + 0 ≤ 7293034; omega⟩ clOK9 0 0 rfl rfl [17] [0, 1, 2, 3, 4, 5, 6, 7, 8, 9, 10, 11, 12, 13, 14, 15, 16, 18, 19] 20 rfl (by decide) rfl rfl (Nat.le_of_ble_eq_true rfl) dL_law_1499 ?_
  rintro _ _ ⟨rfl, rfl⟩
  refine ww_perm (gs' := [wGW E a0 (rf10 (a1 0) (a2 0) (a3 0) (a6 0) (a7 0) (a8 0) (a11 0) (a12 0) (a13 0) (a14 0)) v0, wHouse E a1 v1, wHouse E a2 v2, wHist E a3 (rf2 q4 (a5 0)) v3, wHs E q4 ah4 v4, wHouse E a5 v5, wSight E a6 v6, wSight E a7 v7, wBest E a8 (rf2 (a9 0) (a10 0)) v8, wHouse E a9 v9, wSight E a10 v10, wIntr E a11 p1475.2.1, wToks E a12 v12, wHRead E a13 (rf1 (a12 0)), wQRead E a14 (rf3 (a12 0) q15 q16) v14, wArr E q15 12 v15, wArr E q16 12 v16, wModel E a17 (rf2 (a17 1) q18) p1499.2, wNm E q18, wLon E q19 p1475.2.2]) [1, 2, 3, 4, 5, 6, 7, 8, 9, 10, 11, 12, 13, 14, 15, 16, 17, 0, 18, 19] 20 rfl (by decide) rfl ?_
  refine ww_istore (lv' := [(6, .int p1499.1), (5, .int p1475.1), (0, .ref bS), (1, .ref (a0 0)), (2, .ref (a17 0)), (3, .ref q19), (4, .int x4)]) C dL_law_1502 (by decide) rfl ?_
  refine ww_aload_n C dL_law_1504 rfl 4 rfl ?_
  obtain ⟨p1505, hp1505, hf⟩ := bdE hf
  refine ww_callV C (As := []) (st := []) (gr := [wGW E a0 (rf10 (a1 0) (a2 0) (a3 0) (a6 0) (a7 0) (a8 0) (a11 0) (a12 0) (a13 0) (a14 0)) v0, wHouse E a1 v1, wHouse E a2 v2, wHist E a3 (rf2 q4 (a5 0)) v3, wHs E q4 ah4 v4, wHouse E a5 v5, wSight E a6 v6, wSight E a7 v7, wBest E a8 (rf2 (a9 0) (a10 0)) v8, wHouse E a9 v9, wSight E a10 v10, wIntr E a11 p1475.2.1, wToks E a12 v12, wHRead E a13 (rf1 (a12 0)), wQRead E a14 (rf3 (a12 0) q15 q16) v14, wArr E q15 12 v15, wArr E q16 12 v16, wNm E q18, wLon E q19 p1475.2.2]) (c_X9_thrown (E := E) (a0 := a17) (h0_0 := a17 1) (h0_1 := q18) hp1505) gL_law_X9_thrown rfl yk_X9_thrown ⟨by decide, by decide⟩ ⟨by show c + 3 + 0 + 0 ≤ 601024; omega, by show s + 18 + 0 + 0 ≤ 7293034; omega⟩ clOK9 0 0 rfl rfl [17] [0, 1, 2, 3, 4, 5, 6, 7, 8, 9, 10, 11, 12, 13, 14, 15, 16, 18, 19] 20 rfl (by decide) rfl rfl (Nat.le_of_ble_eq_true rfl) dL_law_1505 ?_
  rintro _ _ ⟨rfl, rfl⟩
  refine ww_perm (gs' := [wGW E a0 (rf10 (a1 0) (a2 0) (a3 0) (a6 0) (a7 0) (a8 0) (a11 0) (a12 0) (a13 0) (a14 0)) v0, wHouse E a1 v1, wHouse E a2 v2, wHist E a3 (rf2 q4 (a5 0)) v3, wHs E q4 ah4 v4, wHouse E a5 v5, wSight E a6 v6, wSight E a7 v7, wBest E a8 (rf2 (a9 0) (a10 0)) v8, wHouse E a9 v9, wSight E a10 v10, wIntr E a11 p1475.2.1, wToks E a12 v12, wHRead E a13 (rf1 (a12 0)), wQRead E a14 (rf3 (a12 0) q15 q16) v14, wArr E q15 12 v15, wArr E q16 12 v16, wModel E a17 (rf2 (a17 1) q18) p1499.2, wNm E q18, wLon E q19 p1475.2.2]) [1, 2, 3, 4, 5, 6, 7, 8, 9, 10, 11, 12, 13, 14, 15, 16, 17, 0, 18, 19] 20 rfl (by decide) rfl ?_
  refine ww_iload C dL_law_1508 1 rfl ?_
  refine ww_icmp_eq (tgt := 1515) C dL_law_1510 (by decide) (fun c_66 => ?_) (fun c_66 => ?_)
  · replace hf := ifT c_66 hf
    refine ww_iload C dL_law_1515 1 rfl ?_
    refine ww_if_ne (tgt := 1532) C dL_law_1517 (by decide) (fun c_67 => ?_) (fun c_67 => ?_)
    · replace hf := ifF c_67 hf
      refine ww_goto (tgt := 2229) C dL_law_1532 (by decide) ?_
      obtain ⟨x4_2229, e_x4_2229⟩ : ∃ y : Int32, y = x4 + 6 := ⟨_, rfl⟩
      replace hf := ltE e_x4_2229 hf
      refine ww_iinc (v := x4_2229) (lv' := [(4, .int x4_2229), (6, .int p1499.1), (5, .int p1475.1), (0, .ref bS), (1, .ref (a0 0)), (2, .ref (a17 0)), (3, .ref q19)]) C dL_law_2229 6 rfl (by rw [e_x4_2229]; rfl) (by decide) rfl ?_
      refine ww_goto (tgt := 23) C dL_law_2232 (by decide) ?_
      refine ww_sub C (lv' := [(0, .ref bS), (1, .ref (a0 0)), (2, .ref (a17 0)), (3, .ref q19), (4, .int x4_2229)]) [3, 4, 5, 6, 0] rfl ?_
      refine ww_widen (k := c + 3) (n := s + 18) (by show c + 3 + 0 + 0 ≤ c + 3; omega) (by show s + 18 + 0 + 0 ≤ s + 18; omega) ?_
      exact hk23 _ _ _ _ _ _ _ _ _ _ _ _ _ _ _ _ _ _ _ hf
    · replace hf := ifT c_67 hf
      refine ww_aload_n C dL_law_1520 rfl 5 rfl ?_
      refine ww_iconst (v := 0) C dL_law_1521 (by decide) ?_
      obtain ⟨g_68, hf⟩ := gdE hf
      refine ww_lald C (f := p1475.2.2) (w := wLon E q19 p1475.2.2) 19 0 rfl q_Lon (inB_vp g_68) dL_law_1522 ?_
      refine ww_iload C dL_law_1523 0 rfl ?_
      refine ww_i2l C dL_law_1525 ?_
      refine ww_lcmp C dL_law_1526 ?_
      refine ww_if_eq (tgt := 1532) C dL_law_1527 (by decide) (fun c_69 => ?_) (fun c_69 => ?_)
      · replace hf := ifT c_69 hf
        refine ww_goto (tgt := 2229) C dL_law_1532 (by decide) ?_
        obtain ⟨x4_2229, e_x4_2229⟩ : ∃ y : Int32, y = x4 + 6 := ⟨_, rfl⟩
        replace hf := ltE e_x4_2229 hf
        refine ww_iinc (v := x4_2229) (lv' := [(4, .int x4_2229), (6, .int p1499.1), (5, .int p1475.1), (0, .ref bS), (1, .ref (a0 0)), (2, .ref (a17 0)), (3, .ref q19)]) C dL_law_2229 6 rfl (by rw [e_x4_2229]; rfl) (by decide) rfl ?_
        refine ww_goto (tgt := 23) C dL_law_2232 (by decide) ?_
        refine ww_sub C (lv' := [(0, .ref bS), (1, .ref (a0 0)), (2, .ref (a17 0)), (3, .ref q19), (4, .int x4_2229)]) [3, 4, 5, 6, 0] rfl ?_
        refine ww_widen (k := c + 3) (n := s + 18) (by show c + 3 + 0 + 0 ≤ c + 3; omega) (by show s + 18 + 0 + 0 ≤ s + 18; omega) ?_
        exact hk23 _ _ _ _ _ _ _ _ _ _ _ _ _ _ _ _ _ _ _ hf
      · replace hf := ifF c_69 hf
        refine ww_iconst (v := 0) C dL_law_1530 (by decide) ?_
        cases hf
  · replace hf := ifF c_66 hf
    refine ww_iconst (v := 0) C dL_law_1513 (by decide) ?_
    cases hf

set_option maxHeartbeats 8000000 in
set_option maxRecDepth 100000 in
theorem w_L_law_1535 {E : Ex} {K : Kx} (C : Cx E K cL_law 9 (some .boolean) RL wsL_law rmL_law) {a0 : Nat → Nat} {a1 : Nat → Nat} {a2 : Nat → Nat} {a3 : Nat → Nat} {q4 : Nat} {ah4 : Nat → Nat → Nat} {a5 : Nat → Nat} {a6 : Nat → Nat} {a7 : Nat → Nat} {a8 : Nat → Nat} {a9 : Nat → Nat} {a10 : Nat → Nat} {a11 : Nat → Nat} {a12 : Nat → Nat} {a13 : Nat → Nat} {a14 : Nat → Nat} {q15 : Nat} {q16 : Nat} {a17 : Nat → Nat} {q18 : Nat} {q19 : Nat} {bS L : Nat} {xs : Nat → Int32} {Q : State → Prop} (T0 : TL E K) (S0 : SX bS L xs K) (HR : ∀ (c s : Nat) (lv : List (Nat × Value)) (gs : List va_W), c ≤ 601024 → s ≤ 7293034 → WW E K c s Q 2236 lv [.int 1] gs) {c s : Nat} (hc : c + 3 ≤ 601024) (hs : s + 18 ≤ 7293034) {k23 : Int32 → GWV → HouseV → HouseV → HistV → (Nat → HouseV) → HouseV → SightV → SightV → BestV → HouseV → SightV → IntrV → ToksV → QReadV → (Nat → Int32) → (Nat → Int32) → ModelV → (Nat → Int64) → Option Unit} (hk23 : ∀ (x4 : Int32) (v0 : GWV) (v1 : HouseV) (v2 : HouseV) (v3 : HistV) (v4 : Nat → HouseV) (v5 : HouseV) (v6 : SightV) (v7 : SightV) (v8 : BestV) (v9 : HouseV) (v10 : SightV) (v11 : IntrV) (v12 : ToksV) (v14 : QReadV) (v15 : Nat → Int32) (v16 : Nat → Int32) (v17 : ModelV) (v19 : Nat → Int64), k23 x4 v0 v1 v2 v3 v4 v5 v6 v7 v8 v9 v10 v11 v12 v14 v15 v16 v17 v19 = some () → WW E K (c + 3) (s + 18) Q 23 [(0, .ref bS), (1, .ref (a0 0)), (2, .ref (a17 0)), (3, .ref q19), (4, .int x4)] [] [wGW E a0 (rf10 (a1 0) (a2 0) (a3 0) (a6 0) (a7 0) (a8 0) (a11 0) (a12 0) (a13 0) (a14 0)) v0, wHouse E a1 v1, wHouse E a2 v2, wHist E a3 (rf2 q4 (a5 0)) v3, wHs E q4 ah4 v4, wHouse E a5 v5, wSight E a6 v6, wSight E a7 v7, wBest E a8 (rf2 (a9 0) (a10 0)) v8, wHouse E a9 v9, wSight E a10 v10, wIntr E a11 v11, wToks E a12 v12, wHRead E a13 (rf1 (a12 0)), wQRead E a14 (rf3 (a12 0) q15 q16) v14, wArr E q15 12 v15, wArr E q16 12 v16, wModel E a17 (rf2 (a17 1) q18) v17, wNm E q18, wLon E q19 v19]) {x4 : Int32} {v0 : GWV} {v1 : HouseV} {v2 : HouseV} {v3 : HistV} {v4 : Nat → HouseV} {v5 : HouseV} {v6 : SightV} {v7 : SightV} {v8 : BestV} {v9 : HouseV} {v10 : SightV} {v11 : IntrV} {v12 : ToksV} {v14 : QReadV} {v15 : Nat → Int32} {v16 : Nat → Int32} {v17 : ModelV} {v19 : Nat → Int64} (hf : Law_1535 L xs k23 x4 v0 v1 v2 v3 v4 v5 v6 v7 v8 v9 v10 v11 v12 v14 v15 v16 v17 v19 = some ()) : WW E K c s Q 1535 [(0, .ref bS), (1, .ref (a0 0)), (2, .ref (a17 0)), (3, .ref q19), (4, .int x4)] [] [wGW E a0 (rf10 (a1 0) (a2 0) (a3 0) (a6 0) (a7 0) (a8 0) (a11 0) (a12 0) (a13 0) (a14 0)) v0, wHouse E a1 v1, wHouse E a2 v2, wHist E a3 (rf2 q4 (a5 0)) v3, wHs E q4 ah4 v4, wHouse E a5 v5, wSight E a6 v6, wSight E a7 v7, wBest E a8 (rf2 (a9 0) (a10 0)) v8, wHouse E a9 v9, wSight E a10 v10, wIntr E a11 v11, wToks E a12 v12, wHRead E a13 (rf1 (a12 0)), wQRead E a14 (rf3 (a12 0) q15 q16) v14, wArr E q15 12 v15, wArr E q16 12 v16, wModel E a17 (rf2 (a17 1) q18) v17, wNm E q18, wLon E q19 v19] := by
  rw [Law_1535] at hf
  refine ww_aload_n C dL_law_1535 rfl 1 rfl ?_
  refine ww_aload_n C dL_law_1536 rfl 0 rfl ?_
  refine ww_iload C dL_law_1537 4 rfl ?_
  refine ww_iconst (v := 1) C dL_law_1539 (by decide) ?_
  refine ww_iadd C dL_law_1540 ?_
  obtain ⟨g_56, hf⟩ := gdE hf
  refine ww_sld C S0 (inB_vp g_56) dL_law_1541 ?_
  refine ww_aload_n C dL_law_1542 rfl 0 rfl ?_
  refine ww_iload C dL_law_1543 4 rfl ?_
  refine ww_iconst (v := 2) C dL_law_1545 (by decide) ?_
  refine ww_iadd C dL_law_1546 ?_
  obtain ⟨g_57, hf⟩ := gdE hf
  refine ww_sld C S0 (inB_vp g_57) dL_law_1547 ?_
  refine ww_aload_n C dL_law_1548 rfl 0 rfl ?_
  refine ww_iload C dL_law_1549 4 rfl ?_
  refine ww_iconst (v := 3) C dL_law_1551 (by decide) ?_
  refine ww_iadd C dL_law_1552 ?_
  obtain ⟨g_58, hf⟩ := gdE hf
  refine ww_sld C S0 (inB_vp g_58) dL_law_1553 ?_
  refine ww_aload_n C dL_law_1554 rfl 3 rfl ?_
  obtain ⟨p1555, hp1555, hf⟩ := bdE hf
  refine ww_callSL C T0 (As := [.ref (a0 0), .int (xs (Int32.toNatClampNeg (x4 + 1))), .int (xs (Int32.toNatClampNeg (x4 + 2))), .int (xs (Int32.toNatClampNeg (x4 + 3))), .ref q19]) (st := []) (gr := [wHouse E a2 v2, wHist E a3 (rf2 q4 (a5 0)) v3, wHs E q4 ah4 v4, wHouse E a5 v5, wSight E a6 v6, wSight E a7 v7, wBest E a8 (rf2 (a9 0) (a10 0)) v8, wHouse E a9 v9, wSight E a10 v10, wToks E a12 v12, wHRead E a13 (rf1 (a12 0)), wQRead E a14 (rf3 (a12 0) q15 q16) v14, wArr E q15 12 v15, wArr E q16 12 v16, wModel E a17 (rf2 (a17 1) q18) v17, wNm E q18]) (c_L_hiding (E := E) (a0 := a0) (h0_1 := a2 0) (h0_2 := a3 0) (h0_3 := a6 0) (h0_4 := a7 0) (h0_5 := a8 0) (h0_7 := a12 0) (h0_8 := a13 0) (h0_9 := a14 0) (a1 := a1) (a2 := a11) (q3 := q19) hp1555) gL_law_L_hiding rfl ysk_L_hiding ⟨by decide, by decide⟩ ⟨by show c + 3 ≤ 601024; omega, by show s + 18 ≤ 7293034; omega⟩ [0, 1, 11, 19] [2, 3, 4, 5, 6, 7, 8, 9, 10, 12, 13, 14, 15, 16, 17, 18] 20 rfl (by decide) rfl rfl (Nat.le_of_ble_eq_true rfl) dL_law_1555 ?_
  rintro _ _ ⟨rfl, rfl⟩
  refine ww_perm (gs' := [wGW E a0 (rf10 (a1 0) (a2 0) (a3 0) (a6 0) (a7 0) (a8 0) (a11 0) (a12 0) (a13 0) (a14 0)) v0, wHouse E a1 v1, wHouse E a2 v2, wHist E a3 (rf2 q4 (a5 0)) v3, wHs E q4 ah4 v4, wHouse E a5 v5, wSight E a6 v6, wSight E a7 v7, wBest E a8 (rf2 (a9 0) (a10 0)) v8, wHouse E a9 v9, wSight E a10 v10, wIntr E a11 p1555.2.1, wToks E a12 v12, wHRead E a13 (rf1 (a12 0)), wQRead E a14 (rf3 (a12 0) q15 q16) v14, wArr E q15 12 v15, wArr E q16 12 v16, wModel E a17 (rf2 (a17 1) q18) v17, wNm E q18, wLon E q19 p1555.2.2]) [0, 1, 4, 5, 6, 7, 8, 9, 10, 11, 12, 2, 13, 14, 15, 16, 17, 18, 19, 3] 20 rfl (by decide) rfl ?_
  refine ww_istore (lv' := [(5, .int p1555.1), (0, .ref bS), (1, .ref (a0 0)), (2, .ref (a17 0)), (3, .ref q19), (4, .int x4)]) C dL_law_1558 (by decide) rfl ?_
  refine ww_aload_n C dL_law_1560 rfl 3 rfl ?_
  refine ww_aload_n C dL_law_1561 rfl 1 rfl ?_
  refine ww_iload C dL_law_1562 5 rfl ?_
  refine ww_iconst (v := 1) C dL_law_1564 (by decide) ?_
  refine ww_iadd C dL_law_1565 ?_
  refine ww_sld C S0 (inB_vp g_56) dL_law_1566 ?_
  refine ww_aload_n C dL_law_1567 rfl 1 rfl ?_
  refine ww_iload C dL_law_1568 5 rfl ?_
  refine ww_iconst (v := 2) C dL_law_1570 (by decide) ?_
  refine ww_iadd C dL_law_1571 ?_
  refine ww_sld C S0 (inB_vp g_57) dL_law_1572 ?_
  refine ww_aload_n C dL_law_1573 rfl 1 rfl ?_
  refine ww_iload C dL_law_1574 5 rfl ?_
  refine ww_iconst (v := 3) C dL_law_1576 (by decide) ?_
  refine ww_iadd C dL_law_1577 ?_
  refine ww_sld C S0 (inB_vp g_58) dL_law_1578 ?_
  obtain ⟨p1579, hp1579, hf⟩ := bdE hf
  refine ww_callV C (As := [.int (xs (Int32.toNatClampNeg (x4 + 1))), .int (xs (Int32.toNatClampNeg (x4 + 2))), .int (xs (Int32.toNatClampNeg (x4 + 3)))]) (st := []) (gr := [wGW E a0 (rf10 (a1 0) (a2 0) (a3 0) (a6 0) (a7 0) (a8 0) (a11 0) (a12 0) (a13 0) (a14 0)) v0, wHouse E a1 v1, wHouse E a2 v2, wHist E a3 (rf2 q4 (a5 0)) v3, wHs E q4 ah4 v4, wHouse E a5 v5, wSight E a6 v6, wSight E a7 v7, wBest E a8 (rf2 (a9 0) (a10 0)) v8, wHouse E a9 v9, wSight E a10 v10, wIntr E a11 p1555.2.1, wToks E a12 v12, wHRead E a13 (rf1 (a12 0)), wQRead E a14 (rf3 (a12 0) q15 q16) v14, wArr E q15 12 v15, wArr E q16 12 v16, wNm E q18, wLon E q19 p1555.2.2]) (c_X9_hiding (E := E) (a0 := a17) (h0_1 := q18) hp1579) gL_law_X9_hiding rfl yk_X9_hiding ⟨by decide, by decide⟩ ⟨by show c + 3 + 0 ≤ 601024; omega, by show s + 18 + 0 ≤ 7293034; omega⟩ clOK9 0 0 rfl rfl [17] [0, 1, 2, 3, 4, 5, 6, 7, 8, 9, 10, 11, 12, 13, 14, 15, 16, 18, 19] 20 rfl (by decide) rfl rfl (Nat.le_of_ble_eq_true rfl) dL_law_1579 ?_
  rintro _ _ ⟨rfl, rfl⟩
  refine ww_perm (gs' := [wGW E a0 (rf10 (a1 0) (a2 0) (a3 0) (a6 0) (a7 0) (a8 0) (a11 0) (a12 0) (a13 0) (a14 0)) v0, wHouse E a1 v1, wHouse E a2 v2, wHist E a3 (rf2 q4 (a5 0)) v3, wHs E q4 ah4 v4, wHouse E a5 v5, wSight E a6 v6, wSight E a7 v7, wBest E a8 (rf2 (a9 0) (a10 0)) v8, wHouse E a9 v9, wSight E a10 v10, wIntr E a11 p1555.2.1, wToks E a12 v12, wHRead E a13 (rf1 (a12 0)), wQRead E a14 (rf3 (a12 0) q15 q16) v14, wArr E q15 12 v15, wArr E q16 12 v16, wModel E a17 (rf2 (a17 1) q18) p1579.2, wNm E q18, wLon E q19 p1555.2.2]) [1, 2, 3, 4, 5, 6, 7, 8, 9, 10, 11, 12, 13, 14, 15, 16, 17, 0, 18, 19] 20 rfl (by decide) rfl ?_
  refine ww_istore (lv' := [(6, .int p1579.1), (5, .int p1555.1), (0, .ref bS), (1, .ref (a0 0)), (2, .ref (a17 0)), (3, .ref q19), (4, .int x4)]) C dL_law_1582 (by decide) rfl ?_
  refine ww_aload_n C dL_law_1584 rfl 4 rfl ?_
  obtain ⟨p1585, hp1585, hf⟩ := bdE hf
  refine ww_callV C (As := []) (st := []) (gr := [wGW E a0 (rf10 (a1 0) (a2 0) (a3 0) (a6 0) (a7 0) (a8 0) (a11 0) (a12 0) (a13 0) (a14 0)) v0, wHouse E a1 v1, wHouse E a2 v2, wHist E a3 (rf2 q4 (a5 0)) v3, wHs E q4 ah4 v4, wHouse E a5 v5, wSight E a6 v6, wSight E a7 v7, wBest E a8 (rf2 (a9 0) (a10 0)) v8, wHouse E a9 v9, wSight E a10 v10, wIntr E a11 p1555.2.1, wToks E a12 v12, wHRead E a13 (rf1 (a12 0)), wQRead E a14 (rf3 (a12 0) q15 q16) v14, wArr E q15 12 v15, wArr E q16 12 v16, wNm E q18, wLon E q19 p1555.2.2]) (c_X9_thrown (E := E) (a0 := a17) (h0_0 := a17 1) (h0_1 := q18) hp1585) gL_law_X9_thrown rfl yk_X9_thrown ⟨by decide, by decide⟩ ⟨by show c + 3 + 0 + 0 ≤ 601024; omega, by show s + 18 + 0 + 0 ≤ 7293034; omega⟩ clOK9 0 0 rfl rfl [17] [0, 1, 2, 3, 4, 5, 6, 7, 8, 9, 10, 11, 12, 13, 14, 15, 16, 18, 19] 20 rfl (by decide) rfl rfl (Nat.le_of_ble_eq_true rfl) dL_law_1585 ?_
  rintro _ _ ⟨rfl, rfl⟩
  refine ww_perm (gs' := [wGW E a0 (rf10 (a1 0) (a2 0) (a3 0) (a6 0) (a7 0) (a8 0) (a11 0) (a12 0) (a13 0) (a14 0)) v0, wHouse E a1 v1, wHouse E a2 v2, wHist E a3 (rf2 q4 (a5 0)) v3, wHs E q4 ah4 v4, wHouse E a5 v5, wSight E a6 v6, wSight E a7 v7, wBest E a8 (rf2 (a9 0) (a10 0)) v8, wHouse E a9 v9, wSight E a10 v10, wIntr E a11 p1555.2.1, wToks E a12 v12, wHRead E a13 (rf1 (a12 0)), wQRead E a14 (rf3 (a12 0) q15 q16) v14, wArr E q15 12 v15, wArr E q16 12 v16, wModel E a17 (rf2 (a17 1) q18) p1579.2, wNm E q18, wLon E q19 p1555.2.2]) [1, 2, 3, 4, 5, 6, 7, 8, 9, 10, 11, 12, 13, 14, 15, 16, 17, 0, 18, 19] 20 rfl (by decide) rfl ?_
  refine ww_iload C dL_law_1588 1 rfl ?_
  refine ww_icmp_eq (tgt := 1595) C dL_law_1590 (by decide) (fun c_59 => ?_) (fun c_59 => ?_)
  · replace hf := ifT c_59 hf
    refine ww_iload C dL_law_1595 1 rfl ?_
    refine ww_if_ne (tgt := 1612) C dL_law_1597 (by decide) (fun c_60 => ?_) (fun c_60 => ?_)
    · replace hf := ifF c_60 hf
      refine ww_goto (tgt := 2229) C dL_law_1612 (by decide) ?_
      obtain ⟨x4_2229, e_x4_2229⟩ : ∃ y : Int32, y = x4 + 6 := ⟨_, rfl⟩
      replace hf := ltE e_x4_2229 hf
      refine ww_iinc (v := x4_2229) (lv' := [(4, .int x4_2229), (6, .int p1579.1), (5, .int p1555.1), (0, .ref bS), (1, .ref (a0 0)), (2, .ref (a17 0)), (3, .ref q19)]) C dL_law_2229 6 rfl (by rw [e_x4_2229]; rfl) (by decide) rfl ?_
      refine ww_goto (tgt := 23) C dL_law_2232 (by decide) ?_
      refine ww_sub C (lv' := [(0, .ref bS), (1, .ref (a0 0)), (2, .ref (a17 0)), (3, .ref q19), (4, .int x4_2229)]) [3, 4, 5, 6, 0] rfl ?_
      refine ww_widen (k := c + 3) (n := s + 18) (by show c + 3 + 0 + 0 ≤ c + 3; omega) (by show s + 18 + 0 + 0 ≤ s + 18; omega) ?_
      exact hk23 _ _ _ _ _ _ _ _ _ _ _ _ _ _ _ _ _ _ _ hf
    · replace hf := ifT c_60 hf
      refine ww_aload_n C dL_law_1600 rfl 5 rfl ?_
      refine ww_iconst (v := 0) C dL_law_1601 (by decide) ?_
      obtain ⟨g_61, hf⟩ := gdE hf
      refine ww_lald C (f := p1555.2.2) (w := wLon E q19 p1555.2.2) 19 0 rfl q_Lon (inB_vp g_61) dL_law_1602 ?_
      refine ww_iload C dL_law_1603 0 rfl ?_
      refine ww_i2l C dL_law_1605 ?_
      refine ww_lcmp C dL_law_1606 ?_
      refine ww_if_eq (tgt := 1612) C dL_law_1607 (by decide) (fun c_62 => ?_) (fun c_62 => ?_)
      · replace hf := ifT c_62 hf
        refine ww_goto (tgt := 2229) C dL_law_1612 (by decide) ?_
        obtain ⟨x4_2229, e_x4_2229⟩ : ∃ y : Int32, y = x4 + 6 := ⟨_, rfl⟩
        replace hf := ltE e_x4_2229 hf
        refine ww_iinc (v := x4_2229) (lv' := [(4, .int x4_2229), (6, .int p1579.1), (5, .int p1555.1), (0, .ref bS), (1, .ref (a0 0)), (2, .ref (a17 0)), (3, .ref q19)]) C dL_law_2229 6 rfl (by rw [e_x4_2229]; rfl) (by decide) rfl ?_
        refine ww_goto (tgt := 23) C dL_law_2232 (by decide) ?_
        refine ww_sub C (lv' := [(0, .ref bS), (1, .ref (a0 0)), (2, .ref (a17 0)), (3, .ref q19), (4, .int x4_2229)]) [3, 4, 5, 6, 0] rfl ?_
        refine ww_widen (k := c + 3) (n := s + 18) (by show c + 3 + 0 + 0 ≤ c + 3; omega) (by show s + 18 + 0 + 0 ≤ s + 18; omega) ?_
        exact hk23 _ _ _ _ _ _ _ _ _ _ _ _ _ _ _ _ _ _ _ hf
      · replace hf := ifF c_62 hf
        refine ww_iconst (v := 0) C dL_law_1610 (by decide) ?_
        cases hf
  · replace hf := ifF c_59 hf
    refine ww_iconst (v := 0) C dL_law_1593 (by decide) ?_
    cases hf

set_option maxHeartbeats 8000000 in
set_option maxRecDepth 100000 in
theorem w_L_law_1615 {E : Ex} {K : Kx} (C : Cx E K cL_law 9 (some .boolean) RL wsL_law rmL_law) {a0 : Nat → Nat} {a1 : Nat → Nat} {a2 : Nat → Nat} {a3 : Nat → Nat} {q4 : Nat} {ah4 : Nat → Nat → Nat} {a5 : Nat → Nat} {a6 : Nat → Nat} {a7 : Nat → Nat} {a8 : Nat → Nat} {a9 : Nat → Nat} {a10 : Nat → Nat} {a11 : Nat → Nat} {a12 : Nat → Nat} {a13 : Nat → Nat} {a14 : Nat → Nat} {q15 : Nat} {q16 : Nat} {a17 : Nat → Nat} {q18 : Nat} {q19 : Nat} {bS L : Nat} {xs : Nat → Int32} {Q : State → Prop} (T0 : TL E K) (S0 : SX bS L xs K) (HR : ∀ (c s : Nat) (lv : List (Nat × Value)) (gs : List va_W), c ≤ 601024 → s ≤ 7293034 → WW E K c s Q 2236 lv [.int 1] gs) {c s : Nat} (hc : c + 3 ≤ 601024) (hs : s + 18 ≤ 7293034) {k23 : Int32 → GWV → HouseV → HouseV → HistV → (Nat → HouseV) → HouseV → SightV → SightV → BestV → HouseV → SightV → IntrV → ToksV → QReadV → (Nat → Int32) → (Nat → Int32) → ModelV → (Nat → Int64) → Option Unit} (hk23 : ∀ (x4 : Int32) (v0 : GWV) (v1 : HouseV) (v2 : HouseV) (v3 : HistV) (v4 : Nat → HouseV) (v5 : HouseV) (v6 : SightV) (v7 : SightV) (v8 : BestV) (v9 : HouseV) (v10 : SightV) (v11 : IntrV) (v12 : ToksV) (v14 : QReadV) (v15 : Nat → Int32) (v16 : Nat → Int32) (v17 : ModelV) (v19 : Nat → Int64), k23 x4 v0 v1 v2 v3 v4 v5 v6 v7 v8 v9 v10 v11 v12 v14 v15 v16 v17 v19 = some () → WW E K (c + 3) (s + 18) Q 23 [(0, .ref bS), (1, .ref (a0 0)), (2, .ref (a17 0)), (3, .ref q19), (4, .int x4)] [] [wGW E a0 (rf10 (a1 0) (a2 0) (a3 0) (a6 0) (a7 0) (a8 0) (a11 0) (a12 0) (a13 0) (a14 0)) v0, wHouse E a1 v1, wHouse E a2 v2, wHist E a3 (rf2 q4 (a5 0)) v3, wHs E q4 ah4 v4, wHouse E a5 v5, wSight E a6 v6, wSight E a7 v7, wBest E a8 (rf2 (a9 0) (a10 0)) v8, wHouse E a9 v9, wSight E a10 v10, wIntr E a11 v11, wToks E a12 v12, wHRead E a13 (rf1 (a12 0)), wQRead E a14 (rf3 (a12 0) q15 q16) v14, wArr E q15 12 v15, wArr E q16 12 v16, wModel E a17 (rf2 (a17 1) q18) v17, wNm E q18, wLon E q19 v19]) {x4 : Int32} {v0 : GWV} {v1 : HouseV} {v2 : HouseV} {v3 : HistV} {v4 : Nat → HouseV} {v5 : HouseV} {v6 : SightV} {v7 : SightV} {v8 : BestV} {v9 : HouseV} {v10 : SightV} {v11 : IntrV} {v12 : ToksV} {v14 : QReadV} {v15 : Nat → Int32} {v16 : Nat → Int32} {v17 : ModelV} {v19 : Nat → Int64} (hf : Law_1615 L xs k23 x4 v0 v1 v2 v3 v4 v5 v6 v7 v8 v9 v10 v11 v12 v14 v15 v16 v17 v19 = some ()) : WW E K c s Q 1615 [(0, .ref bS), (1, .ref (a0 0)), (2, .ref (a17 0)), (3, .ref q19), (4, .int x4)] [] [wGW E a0 (rf10 (a1 0) (a2 0) (a3 0) (a6 0) (a7 0) (a8 0) (a11 0) (a12 0) (a13 0) (a14 0)) v0, wHouse E a1 v1, wHouse E a2 v2, wHist E a3 (rf2 q4 (a5 0)) v3, wHs E q4 ah4 v4, wHouse E a5 v5, wSight E a6 v6, wSight E a7 v7, wBest E a8 (rf2 (a9 0) (a10 0)) v8, wHouse E a9 v9, wSight E a10 v10, wIntr E a11 v11, wToks E a12 v12, wHRead E a13 (rf1 (a12 0)), wQRead E a14 (rf3 (a12 0) q15 q16) v14, wArr E q15 12 v15, wArr E q16 12 v16, wModel E a17 (rf2 (a17 1) q18) v17, wNm E q18, wLon E q19 v19] := by
  rw [Law_1615] at hf
  refine ww_aload_n C dL_law_1615 rfl 1 rfl ?_
  obtain ⟨p1616, hp1616, hf⟩ := bdE hf
  refine ww_callV C (As := []) (st := []) (gr := [wHouse E a2 v2, wHist E a3 (rf2 q4 (a5 0)) v3, wHs E q4 ah4 v4, wHouse E a5 v5, wSight E a6 v6, wSight E a7 v7, wBest E a8 (rf2 (a9 0) (a10 0)) v8, wHouse E a9 v9, wSight E a10 v10, wToks E a12 v12, wHRead E a13 (rf1 (a12 0)), wQRead E a14 (rf3 (a12 0) q15 q16) v14, wArr E q15 12 v15, wArr E q16 12 v16, wModel E a17 (rf2 (a17 1) q18) v17, wNm E q18, wLon E q19 v19]) (c_X8_longestStay (E := E) (a0 := a0) (h0_1 := a2 0) (h0_2 := a3 0) (h0_3 := a6 0) (h0_4 := a7 0) (h0_5 := a8 0) (h0_7 := a12 0) (h0_8 := a13 0) (h0_9 := a14 0) (a1 := a1) (a2 := a11) hp1616) gL_law_X8_longestStay rfl yk_X8_longestStay ⟨by decide, by decide⟩ ⟨by show c + 0 ≤ 601024; omega, by show s + 0 ≤ 7293034; omega⟩ clOK8 0 0 rfl rfl [0, 1, 11] [2, 3, 4, 5, 6, 7, 8, 9, 10, 12, 13, 14, 15, 16, 17, 18, 19] 20 rfl (by decide) rfl rfl (Nat.le_of_ble_eq_true rfl) dL_law_1616 ?_
  rintro _ _ ⟨rfl, rfl⟩
  refine ww_perm (gs' := [wGW E a0 (rf10 (a1 0) (a2 0) (a3 0) (a6 0) (a7 0) (a8 0) (a11 0) (a12 0) (a13 0) (a14 0)) v0, wHouse E a1 v1, wHouse E a2 v2, wHist E a3 (rf2 q4 (a5 0)) v3, wHs E q4 ah4 v4, wHouse E a5 v5, wSight E a6 v6, wSight E a7 v7, wBest E a8 (rf2 (a9 0) (a10 0)) v8, wHouse E a9 v9, wSight E a10 v10, wIntr E a11 p1616.2, wToks E a12 v12, wHRead E a13 (rf1 (a12 0)), wQRead E a14 (rf3 (a12 0) q15 q16) v14, wArr E q15 12 v15, wArr E q16 12 v16, wModel E a17 (rf2 (a17 1) q18) v17, wNm E q18, wLon E q19 v19]) [0, 1, 3, 4, 5, 6, 7, 8, 9, 10, 11, 2, 12, 13, 14, 15, 16, 17, 18, 19] 20 rfl (by decide) rfl ?_
  refine ww_aload_n C dL_law_1619 rfl 2 rfl ?_
  obtain ⟨p1620, hp1620, hf⟩ := bdE hf
  refine ww_callV C (As := []) (st := [.int p1616.1]) (gr := [wGW E a0 (rf10 (a1 0) (a2 0) (a3 0) (a6 0) (a7 0) (a8 0) (a11 0) (a12 0) (a13 0) (a14 0)) v0, wHouse E a1 v1, wHouse E a2 v2, wHist E a3 (rf2 q4 (a5 0)) v3, wHs E q4 ah4 v4, wHouse E a5 v5, wSight E a6 v6, wSight E a7 v7, wBest E a8 (rf2 (a9 0) (a10 0)) v8, wHouse E a9 v9, wSight E a10 v10, wIntr E a11 p1616.2, wToks E a12 v12, wHRead E a13 (rf1 (a12 0)), wQRead E a14 (rf3 (a12 0) q15 q16) v14, wArr E q15 12 v15, wArr E q16 12 v16, wNm E q18, wLon E q19 v19]) (c_X9_longestStay (E := E) (a0 := a17) (h0_1 := q18) hp1620) gL_law_X9_longestStay rfl yk_X9_longestStay ⟨by decide, by decide⟩ ⟨by show c + 0 + 0 ≤ 601024; omega, by show s + 0 + 0 ≤ 7293034; omega⟩ clOK9 0 0 rfl rfl [17] [0, 1, 2, 3, 4, 5, 6, 7, 8, 9, 10, 11, 12, 13, 14, 15, 16, 18, 19] 20 rfl (by decide) rfl rfl (Nat.le_of_ble_eq_true rfl) dL_law_1620 ?_
  rintro _ _ ⟨rfl, rfl⟩
  refine ww_perm (gs' := [wGW E a0 (rf10 (a1 0) (a2 0) (a3 0) (a6 0) (a7 0) (a8 0) (a11 0) (a12 0) (a13 0) (a14 0)) v0, wHouse E a1 v1, wHouse E a2 v2, wHist E a3 (rf2 q4 (a5 0)) v3, wHs E q4 ah4 v4, wHouse E a5 v5, wSight E a6 v6, wSight E a7 v7, wBest E a8 (rf2 (a9 0) (a10 0)) v8, wHouse E a9 v9, wSight E a10 v10, wIntr E a11 p1616.2, wToks E a12 v12, wHRead E a13 (rf1 (a12 0)), wQRead E a14 (rf3 (a12 0) q15 q16) v14, wArr E q15 12 v15, wArr E q16 12 v16, wModel E a17 (rf2 (a17 1) q18) p1620.2, wNm E q18, wLon E q19 v19]) [1, 2, 3, 4, 5, 6, 7, 8, 9, 10, 11, 12, 13, 14, 15, 16, 17, 0, 18, 19] 20 rfl (by decide) rfl ?_
  refine ww_icmp_eq (tgt := 2229) C dL_law_1623 (by decide) (fun c_55 => ?_) (fun c_55 => ?_)
  · replace hf := ifT c_55 hf
    obtain ⟨x4_2229, e_x4_2229⟩ : ∃ y : Int32, y = x4 + 6 := ⟨_, rfl⟩
    replace hf := ltE e_x4_2229 hf
    refine ww_iinc (v := x4_2229) (lv' := [(4, .int x4_2229), (0, .ref bS), (1, .ref (a0 0)), (2, .ref (a17 0)), (3, .ref q19)]) C dL_law_2229 4 rfl (by rw [e_x4_2229]; rfl) (by decide) rfl ?_
    refine ww_goto (tgt := 23) C dL_law_2232 (by decide) ?_
    refine ww_sub C (lv' := [(0, .ref bS), (1, .ref (a0 0)), (2, .ref (a17 0)), (3, .ref q19), (4, .int x4_2229)]) [1, 2, 3, 4, 0] rfl ?_
    refine ww_widen (k := c + 3) (n := s + 18) (by show c + 0 + 0 ≤ c + 3; omega) (by show s + 0 + 0 ≤ s + 18; omega) ?_
    exact hk23 _ _ _ _ _ _ _ _ _ _ _ _ _ _ _ _ _ _ _ hf
  · replace hf := ifF c_55 hf
    refine ww_iconst (v := 0) C dL_law_1626 (by decide) ?_
    cases hf

set_option maxHeartbeats 8000000 in
set_option maxRecDepth 100000 in
theorem w_L_law_1628 {E : Ex} {K : Kx} (C : Cx E K cL_law 9 (some .boolean) RL wsL_law rmL_law) {a0 : Nat → Nat} {a1 : Nat → Nat} {a2 : Nat → Nat} {a3 : Nat → Nat} {q4 : Nat} {ah4 : Nat → Nat → Nat} {a5 : Nat → Nat} {a6 : Nat → Nat} {a7 : Nat → Nat} {a8 : Nat → Nat} {a9 : Nat → Nat} {a10 : Nat → Nat} {a11 : Nat → Nat} {a12 : Nat → Nat} {a13 : Nat → Nat} {a14 : Nat → Nat} {q15 : Nat} {q16 : Nat} {a17 : Nat → Nat} {q18 : Nat} {q19 : Nat} {bS L : Nat} {xs : Nat → Int32} {Q : State → Prop} (T0 : TL E K) (S0 : SX bS L xs K) (HR : ∀ (c s : Nat) (lv : List (Nat × Value)) (gs : List va_W), c ≤ 601024 → s ≤ 7293034 → WW E K c s Q 2236 lv [.int 1] gs) {c s : Nat} (hc : c + 3 ≤ 601024) (hs : s + 18 ≤ 7293034) {k23 : Int32 → GWV → HouseV → HouseV → HistV → (Nat → HouseV) → HouseV → SightV → SightV → BestV → HouseV → SightV → IntrV → ToksV → QReadV → (Nat → Int32) → (Nat → Int32) → ModelV → (Nat → Int64) → Option Unit} (hk23 : ∀ (x4 : Int32) (v0 : GWV) (v1 : HouseV) (v2 : HouseV) (v3 : HistV) (v4 : Nat → HouseV) (v5 : HouseV) (v6 : SightV) (v7 : SightV) (v8 : BestV) (v9 : HouseV) (v10 : SightV) (v11 : IntrV) (v12 : ToksV) (v14 : QReadV) (v15 : Nat → Int32) (v16 : Nat → Int32) (v17 : ModelV) (v19 : Nat → Int64), k23 x4 v0 v1 v2 v3 v4 v5 v6 v7 v8 v9 v10 v11 v12 v14 v15 v16 v17 v19 = some () → WW E K (c + 3) (s + 18) Q 23 [(0, .ref bS), (1, .ref (a0 0)), (2, .ref (a17 0)), (3, .ref q19), (4, .int x4)] [] [wGW E a0 (rf10 (a1 0) (a2 0) (a3 0) (a6 0) (a7 0) (a8 0) (a11 0) (a12 0) (a13 0) (a14 0)) v0, wHouse E a1 v1, wHouse E a2 v2, wHist E a3 (rf2 q4 (a5 0)) v3, wHs E q4 ah4 v4, wHouse E a5 v5, wSight E a6 v6, wSight E a7 v7, wBest E a8 (rf2 (a9 0) (a10 0)) v8, wHouse E a9 v9, wSight E a10 v10, wIntr E a11 v11, wToks E a12 v12, wHRead E a13 (rf1 (a12 0)), wQRead E a14 (rf3 (a12 0) q15 q16) v14, wArr E q15 12 v15, wArr E q16 12 v16, wModel E a17 (rf2 (a17 1) q18) v17, wNm E q18, wLon E q19 v19]) {x4 : Int32} {v0 : GWV} {v1 : HouseV} {v2 : HouseV} {v3 : HistV} {v4 : Nat → HouseV} {v5 : HouseV} {v6 : SightV} {v7 : SightV} {v8 : BestV} {v9 : HouseV} {v10 : SightV} {v11 : IntrV} {v12 : ToksV} {v14 : QReadV} {v15 : Nat → Int32} {v16 : Nat → Int32} {v17 : ModelV} {v19 : Nat → Int64} (hf : Law_1628 L xs k23 x4 v0 v1 v2 v3 v4 v5 v6 v7 v8 v9 v10 v11 v12 v14 v15 v16 v17 v19 = some ()) : WW E K c s Q 1628 [(0, .ref bS), (1, .ref (a0 0)), (2, .ref (a17 0)), (3, .ref q19), (4, .int x4)] [] [wGW E a0 (rf10 (a1 0) (a2 0) (a3 0) (a6 0) (a7 0) (a8 0) (a11 0) (a12 0) (a13 0) (a14 0)) v0, wHouse E a1 v1, wHouse E a2 v2, wHist E a3 (rf2 q4 (a5 0)) v3, wHs E q4 ah4 v4, wHouse E a5 v5, wSight E a6 v6, wSight E a7 v7, wBest E a8 (rf2 (a9 0) (a10 0)) v8, wHouse E a9 v9, wSight E a10 v10, wIntr E a11 v11, wToks E a12 v12, wHRead E a13 (rf1 (a12 0)), wQRead E a14 (rf3 (a12 0) q15 q16) v14, wArr E q15 12 v15, wArr E q16 12 v16, wModel E a17 (rf2 (a17 1) q18) v17, wNm E q18, wLon E q19 v19] := by
  rw [Law_1628] at hf
  refine ww_aload_n C dL_law_1628 rfl 1 rfl ?_
  obtain ⟨p1629, hp1629, hf⟩ := bdE hf
  refine ww_callV C (As := []) (st := []) (gr := [wHouse E a2 v2, wHist E a3 (rf2 q4 (a5 0)) v3, wHs E q4 ah4 v4, wHouse E a5 v5, wSight E a7 v7, wBest E a8 (rf2 (a9 0) (a10 0)) v8, wHouse E a9 v9, wSight E a10 v10, wIntr E a11 v11, wToks E a12 v12, wHRead E a13 (rf1 (a12 0)), wQRead E a14 (rf3 (a12 0) q15 q16) v14, wArr E q15 12 v15, wArr E q16 12 v16, wModel E a17 (rf2 (a17 1) q18) v17, wNm E q18, wLon E q19 v19]) (c_X8_coverage (E := E) (a0 := a0) (h0_1 := a2 0) (h0_2 := a3 0) (h0_4 := a7 0) (h0_5 := a8 0) (h0_6 := a11 0) (h0_7 := a12 0) (h0_8 := a13 0) (h0_9 := a14 0) (a1 := a1) (a2 := a6) hp1629) gL_law_X8_coverage rfl yk_X8_coverage ⟨by decide, by decide⟩ ⟨by show c + 0 ≤ 601024; omega, by show s + 0 ≤ 7293034; omega⟩ clOK8 0 0 rfl rfl [0, 1, 6] [2, 3, 4, 5, 7, 8, 9, 10, 11, 12, 13, 14, 15, 16, 17, 18, 19] 20 rfl (by decide) rfl rfl (Nat.le_of_ble_eq_true rfl) dL_law_1629 ?_
  rintro _ _ ⟨rfl, rfl⟩
  refine ww_perm (gs' := [wGW E a0 (rf10 (a1 0) (a2 0) (a3 0) (a6 0) (a7 0) (a8 0) (a11 0) (a12 0) (a13 0) (a14 0)) v0, wHouse E a1 v1, wHouse E a2 v2, wHist E a3 (rf2 q4 (a5 0)) v3, wHs E q4 ah4 v4, wHouse E a5 v5, wSight E a6 p1629.2, wSight E a7 v7, wBest E a8 (rf2 (a9 0) (a10 0)) v8, wHouse E a9 v9, wSight E a10 v10, wIntr E a11 v11, wToks E a12 v12, wHRead E a13 (rf1 (a12 0)), wQRead E a14 (rf3 (a12 0) q15 q16) v14, wArr E q15 12 v15, wArr E q16 12 v16, wModel E a17 (rf2 (a17 1) q18) v17, wNm E q18, wLon E q19 v19]) [0, 1, 3, 4, 5, 6, 2, 7, 8, 9, 10, 11, 12, 13, 14, 15, 16, 17, 18, 19] 20 rfl (by decide) rfl ?_
  refine ww_dstore (lv' := [(5, .double p1629.1), (0, .ref bS), (1, .ref (a0 0)), (2, .ref (a17 0)), (3, .ref q19), (4, .int x4)]) C dL_law_1632 (by decide) rfl ?_
  refine ww_aload_n C dL_law_1634 rfl 3 rfl ?_
  obtain ⟨p1635, hp1635, hf⟩ := bdE hf
  refine ww_callV C (As := []) (st := []) (gr := [wGW E a0 (rf10 (a1 0) (a2 0) (a3 0) (a6 0) (a7 0) (a8 0) (a11 0) (a12 0) (a13 0) (a14 0)) v0, wHouse E a1 v1, wHouse E a2 v2, wHist E a3 (rf2 q4 (a5 0)) v3, wHs E q4 ah4 v4, wHouse E a5 v5, wSight E a6 p1629.2, wSight E a7 v7, wBest E a8 (rf2 (a9 0) (a10 0)) v8, wHouse E a9 v9, wSight E a10 v10, wIntr E a11 v11, wToks E a12 v12, wHRead E a13 (rf1 (a12 0)), wQRead E a14 (rf3 (a12 0) q15 q16) v14, wArr E q15 12 v15, wArr E q16 12 v16, wNm E q18, wLon E q19 v19]) (c_X9_coverage (E := E) (a0 := a17) (h0_1 := q18) hp1635) gL_law_X9_coverage rfl yk_X9_coverage ⟨by decide, by decide⟩ ⟨by show c + 0 + 0 ≤ 601024; omega, by show s + 0 + 0 ≤ 7293034; omega⟩ clOK9 0 0 rfl rfl [17] [0, 1, 2, 3, 4, 5, 6, 7, 8, 9, 10, 11, 12, 13, 14, 15, 16, 18, 19] 20 rfl (by decide) rfl rfl (Nat.le_of_ble_eq_true rfl) dL_law_1635 ?_
  rintro _ _ ⟨rfl, rfl⟩
  refine ww_perm (gs' := [wGW E a0 (rf10 (a1 0) (a2 0) (a3 0) (a6 0) (a7 0) (a8 0) (a11 0) (a12 0) (a13 0) (a14 0)) v0, wHouse E a1 v1, wHouse E a2 v2, wHist E a3 (rf2 q4 (a5 0)) v3, wHs E q4 ah4 v4, wHouse E a5 v5, wSight E a6 p1629.2, wSight E a7 v7, wBest E a8 (rf2 (a9 0) (a10 0)) v8, wHouse E a9 v9, wSight E a10 v10, wIntr E a11 v11, wToks E a12 v12, wHRead E a13 (rf1 (a12 0)), wQRead E a14 (rf3 (a12 0) q15 q16) v14, wArr E q15 12 v15, wArr E q16 12 v16, wModel E a17 (rf2 (a17 1) q18) p1635.2, wNm E q18, wLon E q19 v19]) [1, 2, 3, 4, 5, 6, 7, 8, 9, 10, 11, 12, 13, 14, 15, 16, 17, 0, 18, 19] 20 rfl (by decide) rfl ?_
  refine ww_dstore (lv' := [(7, .double p1635.1), (5, .double p1629.1), (0, .ref bS), (1, .ref (a0 0)), (2, .ref (a17 0)), (3, .ref q19), (4, .int x4)]) C dL_law_1638 (by decide) rfl ?_
  refine ww_dload C dL_law_1640 1 rfl ?_
  refine ww_dload C dL_law_1642 0 rfl ?_
  refine ww_dcmp C dL_law_1644 ?_
  refine ww_if_eq (tgt := 1666) C dL_law_1645 (by decide) (fun c_52 => ?_) (fun c_52 => ?_)
  · replace hf := ifT c_52 hf
    refine ww_goto (tgt := 2229) C dL_law_1666 (by decide) ?_
    obtain ⟨x4_2229, e_x4_2229⟩ : ∃ y : Int32, y = x4 + 6 := ⟨_, rfl⟩
    replace hf := ltE e_x4_2229 hf
    refine ww_iinc (v := x4_2229) (lv' := [(4, .int x4_2229), (7, .double p1635.1), (5, .double p1629.1), (0, .ref bS), (1, .ref (a0 0)), (2, .ref (a17 0)), (3, .ref q19)]) C dL_law_2229 6 rfl (by rw [e_x4_2229]; rfl) (by decide) rfl ?_
    refine ww_goto (tgt := 23) C dL_law_2232 (by decide) ?_
    refine ww_sub C (lv' := [(0, .ref bS), (1, .ref (a0 0)), (2, .ref (a17 0)), (3, .ref q19), (4, .int x4_2229)]) [3, 4, 5, 6, 0] rfl ?_
    refine ww_widen (k := c + 3) (n := s + 18) (by show c + 0 + 0 ≤ c + 3; omega) (by show s + 0 + 0 ≤ s + 18; omega) ?_
    exact hk23 _ _ _ _ _ _ _ _ _ _ _ _ _ _ _ _ _ _ _ hf
  · replace hf := ifF c_52 hf
    refine ww_dload C dL_law_1648 1 rfl ?_
    refine ww_dload C dL_law_1650 1 rfl ?_
    refine ww_dcmp C dL_law_1652 ?_
    refine ww_if_eq (tgt := 1664) C dL_law_1653 (by decide) (fun c_53 => ?_) (fun c_53 => ?_)
    · replace hf := ifT c_53 hf
      refine ww_iconst (v := 0) C dL_law_1664 (by decide) ?_
      cases hf
    · replace hf := ifF c_53 hf
      refine ww_dload C dL_law_1656 0 rfl ?_
      refine ww_dload C dL_law_1658 0 rfl ?_
      refine ww_dcmp C dL_law_1660 ?_
      refine ww_if_ne (tgt := 1666) C dL_law_1661 (by decide) (fun c_54 => ?_) (fun c_54 => ?_)
      · replace hf := ifF c_54 hf
        refine ww_goto (tgt := 2229) C dL_law_1666 (by decide) ?_
        obtain ⟨x4_2229, e_x4_2229⟩ : ∃ y : Int32, y = x4 + 6 := ⟨_, rfl⟩
        replace hf := ltE e_x4_2229 hf
        refine ww_iinc (v := x4_2229) (lv' := [(4, .int x4_2229), (7, .double p1635.1), (5, .double p1629.1), (0, .ref bS), (1, .ref (a0 0)), (2, .ref (a17 0)), (3, .ref q19)]) C dL_law_2229 6 rfl (by rw [e_x4_2229]; rfl) (by decide) rfl ?_
        refine ww_goto (tgt := 23) C dL_law_2232 (by decide) ?_
        refine ww_sub C (lv' := [(0, .ref bS), (1, .ref (a0 0)), (2, .ref (a17 0)), (3, .ref q19), (4, .int x4_2229)]) [3, 4, 5, 6, 0] rfl ?_
        refine ww_widen (k := c + 3) (n := s + 18) (by show c + 0 + 0 ≤ c + 3; omega) (by show s + 0 + 0 ≤ s + 18; omega) ?_
        exact hk23 _ _ _ _ _ _ _ _ _ _ _ _ _ _ _ _ _ _ _ hf
      · replace hf := ifT c_54 hf
        refine ww_iconst (v := 0) C dL_law_1664 (by decide) ?_
        cases hf

set_option maxHeartbeats 8000000 in
set_option maxRecDepth 100000 in
theorem w_L_law_1669 {E : Ex} {K : Kx} (C : Cx E K cL_law 9 (some .boolean) RL wsL_law rmL_law) {a0 : Nat → Nat} {a1 : Nat → Nat} {a2 : Nat → Nat} {a3 : Nat → Nat} {q4 : Nat} {ah4 : Nat → Nat → Nat} {a5 : Nat → Nat} {a6 : Nat → Nat} {a7 : Nat → Nat} {a8 : Nat → Nat} {a9 : Nat → Nat} {a10 : Nat → Nat} {a11 : Nat → Nat} {a12 : Nat → Nat} {a13 : Nat → Nat} {a14 : Nat → Nat} {q15 : Nat} {q16 : Nat} {a17 : Nat → Nat} {q18 : Nat} {q19 : Nat} {bS L : Nat} {xs : Nat → Int32} {Q : State → Prop} (T0 : TL E K) (S0 : SX bS L xs K) (HR : ∀ (c s : Nat) (lv : List (Nat × Value)) (gs : List va_W), c ≤ 601024 → s ≤ 7293034 → WW E K c s Q 2236 lv [.int 1] gs) {c s : Nat} (hc : c + 3 ≤ 601024) (hs : s + 18 ≤ 7293034) {k23 : Int32 → GWV → HouseV → HouseV → HistV → (Nat → HouseV) → HouseV → SightV → SightV → BestV → HouseV → SightV → IntrV → ToksV → QReadV → (Nat → Int32) → (Nat → Int32) → ModelV → (Nat → Int64) → Option Unit} (hk23 : ∀ (x4 : Int32) (v0 : GWV) (v1 : HouseV) (v2 : HouseV) (v3 : HistV) (v4 : Nat → HouseV) (v5 : HouseV) (v6 : SightV) (v7 : SightV) (v8 : BestV) (v9 : HouseV) (v10 : SightV) (v11 : IntrV) (v12 : ToksV) (v14 : QReadV) (v15 : Nat → Int32) (v16 : Nat → Int32) (v17 : ModelV) (v19 : Nat → Int64), k23 x4 v0 v1 v2 v3 v4 v5 v6 v7 v8 v9 v10 v11 v12 v14 v15 v16 v17 v19 = some () → WW E K (c + 3) (s + 18) Q 23 [(0, .ref bS), (1, .ref (a0 0)), (2, .ref (a17 0)), (3, .ref q19), (4, .int x4)] [] [wGW E a0 (rf10 (a1 0) (a2 0) (a3 0) (a6 0) (a7 0) (a8 0) (a11 0) (a12 0) (a13 0) (a14 0)) v0, wHouse E a1 v1, wHouse E a2 v2, wHist E a3 (rf2 q4 (a5 0)) v3, wHs E q4 ah4 v4, wHouse E a5 v5, wSight E a6 v6, wSight E a7 v7, wBest E a8 (rf2 (a9 0) (a10 0)) v8, wHouse E a9 v9, wSight E a10 v10, wIntr E a11 v11, wToks E a12 v12, wHRead E a13 (rf1 (a12 0)), wQRead E a14 (rf3 (a12 0) q15 q16) v14, wArr E q15 12 v15, wArr E q16 12 v16, wModel E a17 (rf2 (a17 1) q18) v17, wNm E q18, wLon E q19 v19]) {x4 : Int32} {v0 : GWV} {v1 : HouseV} {v2 : HouseV} {v3 : HistV} {v4 : Nat → HouseV} {v5 : HouseV} {v6 : SightV} {v7 : SightV} {v8 : BestV} {v9 : HouseV} {v10 : SightV} {v11 : IntrV} {v12 : ToksV} {v14 : QReadV} {v15 : Nat → Int32} {v16 : Nat → Int32} {v17 : ModelV} {v19 : Nat → Int64} (hf : Law_1669 L xs k23 x4 v0 v1 v2 v3 v4 v5 v6 v7 v8 v9 v10 v11 v12 v14 v15 v16 v17 v19 = some ()) : WW E K c s Q 1669 [(0, .ref bS), (1, .ref (a0 0)), (2, .ref (a17 0)), (3, .ref q19), (4, .int x4)] [] [wGW E a0 (rf10 (a1 0) (a2 0) (a3 0) (a6 0) (a7 0) (a8 0) (a11 0) (a12 0) (a13 0) (a14 0)) v0, wHouse E a1 v1, wHouse E a2 v2, wHist E a3 (rf2 q4 (a5 0)) v3, wHs E q4 ah4 v4, wHouse E a5 v5, wSight E a6 v6, wSight E a7 v7, wBest E a8 (rf2 (a9 0) (a10 0)) v8, wHouse E a9 v9, wSight E a10 v10, wIntr E a11 v11, wToks E a12 v12, wHRead E a13 (rf1 (a12 0)), wQRead E a14 (rf3 (a12 0) q15 q16) v14, wArr E q15 12 v15, wArr E q16 12 v16, wModel E a17 (rf2 (a17 1) q18) v17, wNm E q18, wLon E q19 v19] := by
  rw [Law_1669] at hf
  refine ww_aload_n C dL_law_1669 rfl 1 rfl ?_
  obtain ⟨p1670, hp1670, hf⟩ := bdE hf
  refine ww_callV C (As := []) (st := []) (gr := [wHouse E a2 v2, wHist E a3 (rf2 q4 (a5 0)) v3, wHs E q4 ah4 v4, wHouse E a5 v5, wSight E a6 v6, wSight E a7 v7, wBest E a8 (rf2 (a9 0) (a10 0)) v8, wHouse E a9 v9, wSight E a10 v10, wIntr E a11 v11, wToks E a12 v12, wHRead E a13 (rf1 (a12 0)), wQRead E a14 (rf3 (a12 0) q15 q16) v14, wArr E q15 12 v15, wArr E q16 12 v16, wModel E a17 (rf2 (a17 1) q18) v17, wNm E q18, wLon E q19 v19]) (c_X8_seenRate (E := E) (a0 := a0) (h0_1 := a2 0) (h0_2 := a3 0) (h0_3 := a6 0) (h0_4 := a7 0) (h0_5 := a8 0) (h0_6 := a11 0) (h0_7 := a12 0) (h0_8 := a13 0) (h0_9 := a14 0) (a1 := a1) hp1670) gL_law_X8_seenRate rfl yk_X8_seenRate ⟨by decide, by decide⟩ ⟨by show c + 0 ≤ 601024; omega, by show s + 0 ≤ 7293034; omega⟩ clOK8 0 0 rfl rfl [0, 1] [2, 3, 4, 5, 6, 7, 8, 9, 10, 11, 12, 13, 14, 15, 16, 17, 18, 19] 20 rfl (by decide) rfl rfl (Nat.le_of_ble_eq_true rfl) dL_law_1670 ?_
  rintro _ _ ⟨rfl, rfl⟩
  refine ww_perm (gs' := [wGW E a0 (rf10 (a1 0) (a2 0) (a3 0) (a6 0) (a7 0) (a8 0) (a11 0) (a12 0) (a13 0) (a14 0)) v0, wHouse E a1 v1, wHouse E a2 v2, wHist E a3 (rf2 q4 (a5 0)) v3, wHs E q4 ah4 v4, wHouse E a5 v5, wSight E a6 v6, wSight E a7 v7, wBest E a8 (rf2 (a9 0) (a10 0)) v8, wHouse E a9 v9, wSight E a10 v10, wIntr E a11 v11, wToks E a12 v12, wHRead E a13 (rf1 (a12 0)), wQRead E a14 (rf3 (a12 0) q15 q16) v14, wArr E q15 12 v15, wArr E q16 12 v16, wModel E a17 (rf2 (a17 1) q18) v17, wNm E q18, wLon E q19 v19]) [0, 1, 2, 3, 4, 5, 6, 7, 8, 9, 10, 11, 12, 13, 14, 15, 16, 17, 18, 19] 20 rfl (by decide) rfl ?_
  obtain ⟨g_47, hf⟩ := gdE hf
  refine ww_f2d C g_47 dL_law_1673 ?_
  refine ww_dstore (lv' := [(5, .double (FP.f2d p1670)), (0, .ref bS), (1, .ref (a0 0)), (2, .ref (a17 0)), (3, .ref q19), (4, .int x4)]) C dL_law_1674 (by decide) rfl ?_
  refine ww_aload_n C dL_law_1676 rfl 3 rfl ?_
  obtain ⟨p1677, hp1677, hf⟩ := bdE hf
  refine ww_callV C (As := []) (st := []) (gr := [wGW E a0 (rf10 (a1 0) (a2 0) (a3 0) (a6 0) (a7 0) (a8 0) (a11 0) (a12 0) (a13 0) (a14 0)) v0, wHouse E a1 v1, wHouse E a2 v2, wHist E a3 (rf2 q4 (a5 0)) v3, wHs E q4 ah4 v4, wHouse E a5 v5, wSight E a6 v6, wSight E a7 v7, wBest E a8 (rf2 (a9 0) (a10 0)) v8, wHouse E a9 v9, wSight E a10 v10, wIntr E a11 v11, wToks E a12 v12, wHRead E a13 (rf1 (a12 0)), wQRead E a14 (rf3 (a12 0) q15 q16) v14, wArr E q15 12 v15, wArr E q16 12 v16, wNm E q18, wLon E q19 v19]) (c_X9_seenRate (E := E) (a0 := a17) (h0_1 := q18) hp1677) gL_law_X9_seenRate rfl yk_X9_seenRate ⟨by decide, by decide⟩ ⟨by show c + 0 + 0 ≤ 601024; omega, by show s + 0 + 0 ≤ 7293034; omega⟩ clOK9 0 0 rfl rfl [17] [0, 1, 2, 3, 4, 5, 6, 7, 8, 9, 10, 11, 12, 13, 14, 15, 16, 18, 19] 20 rfl (by decide) rfl rfl (Nat.le_of_ble_eq_true rfl) dL_law_1677 ?_
  rintro _ _ ⟨rfl, rfl⟩
  refine ww_perm (gs' := [wGW E a0 (rf10 (a1 0) (a2 0) (a3 0) (a6 0) (a7 0) (a8 0) (a11 0) (a12 0) (a13 0) (a14 0)) v0, wHouse E a1 v1, wHouse E a2 v2, wHist E a3 (rf2 q4 (a5 0)) v3, wHs E q4 ah4 v4, wHouse E a5 v5, wSight E a6 v6, wSight E a7 v7, wBest E a8 (rf2 (a9 0) (a10 0)) v8, wHouse E a9 v9, wSight E a10 v10, wIntr E a11 v11, wToks E a12 v12, wHRead E a13 (rf1 (a12 0)), wQRead E a14 (rf3 (a12 0) q15 q16) v14, wArr E q15 12 v15, wArr E q16 12 v16, wModel E a17 (rf2 (a17 1) q18) p1677.2, wNm E q18, wLon E q19 v19]) [1, 2, 3, 4, 5, 6, 7, 8, 9, 10, 11, 12, 13, 14, 15, 16, 17, 0, 18, 19] 20 rfl (by decide) rfl ?_
  obtain ⟨g_48, hf⟩ := gdE hf
  refine ww_f2d C g_48 dL_law_1680 ?_
  refine ww_dstore (lv' := [(7, .double (FP.f2d p1677.1)), (5, .double (FP.f2d p1670)), (0, .ref bS), (1, .ref (a0 0)), (2, .ref (a17 0)), (3, .ref q19), (4, .int x4)]) C dL_law_1681 (by decide) rfl ?_
  refine ww_dload C dL_law_1683 1 rfl ?_
  refine ww_dload C dL_law_1685 0 rfl ?_
  refine ww_dcmp C dL_law_1687 ?_
  refine ww_if_eq (tgt := 1709) C dL_law_1688 (by decide) (fun c_49 => ?_) (fun c_49 => ?_)
  · replace hf := ifT c_49 hf
    refine ww_goto (tgt := 2229) C dL_law_1709 (by decide) ?_
    obtain ⟨x4_2229, e_x4_2229⟩ : ∃ y : Int32, y = x4 + 6 := ⟨_, rfl⟩
    replace hf := ltE e_x4_2229 hf
    refine ww_iinc (v := x4_2229) (lv' := [(4, .int x4_2229), (7, .double (FP.f2d p1677.1)), (5, .double (FP.f2d p1670)), (0, .ref bS), (1, .ref (a0 0)), (2, .ref (a17 0)), (3, .ref q19)]) C dL_law_2229 6 rfl (by rw [e_x4_2229]; rfl) (by decide) rfl ?_
    refine ww_goto (tgt := 23) C dL_law_2232 (by decide) ?_
    refine ww_sub C (lv' := [(0, .ref bS), (1, .ref (a0 0)), (2, .ref (a17 0)), (3, .ref q19), (4, .int x4_2229)]) [3, 4, 5, 6, 0] rfl ?_
    refine ww_widen (k := c + 3) (n := s + 18) (by show c + 0 + 0 ≤ c + 3; omega) (by show s + 0 + 0 ≤ s + 18; omega) ?_
    exact hk23 _ _ _ _ _ _ _ _ _ _ _ _ _ _ _ _ _ _ _ hf
  · replace hf := ifF c_49 hf
    refine ww_dload C dL_law_1691 1 rfl ?_
    refine ww_dload C dL_law_1693 1 rfl ?_
    refine ww_dcmp C dL_law_1695 ?_
    refine ww_if_eq (tgt := 1707) C dL_law_1696 (by decide) (fun c_50 => ?_) (fun c_50 => ?_)
    · replace hf := ifT c_50 hf
      refine ww_iconst (v := 0) C dL_law_1707 (by decide) ?_
      cases hf
    · replace hf := ifF c_50 hf
      refine ww_dload C dL_law_1699 0 rfl ?_
      refine ww_dload C dL_law_1701 0 rfl ?_
      refine ww_dcmp C dL_law_1703 ?_
      refine ww_if_ne (tgt := 1709) C dL_law_1704 (by decide) (fun c_51 => ?_) (fun c_51 => ?_)
      · replace hf := ifF c_51 hf
        refine ww_goto (tgt := 2229) C dL_law_1709 (by decide) ?_
        obtain ⟨x4_2229, e_x4_2229⟩ : ∃ y : Int32, y = x4 + 6 := ⟨_, rfl⟩
        replace hf := ltE e_x4_2229 hf
        refine ww_iinc (v := x4_2229) (lv' := [(4, .int x4_2229), (7, .double (FP.f2d p1677.1)), (5, .double (FP.f2d p1670)), (0, .ref bS), (1, .ref (a0 0)), (2, .ref (a17 0)), (3, .ref q19)]) C dL_law_2229 6 rfl (by rw [e_x4_2229]; rfl) (by decide) rfl ?_
        refine ww_goto (tgt := 23) C dL_law_2232 (by decide) ?_
        refine ww_sub C (lv' := [(0, .ref bS), (1, .ref (a0 0)), (2, .ref (a17 0)), (3, .ref q19), (4, .int x4_2229)]) [3, 4, 5, 6, 0] rfl ?_
        refine ww_widen (k := c + 3) (n := s + 18) (by show c + 0 + 0 ≤ c + 3; omega) (by show s + 0 + 0 ≤ s + 18; omega) ?_
        exact hk23 _ _ _ _ _ _ _ _ _ _ _ _ _ _ _ _ _ _ _ hf
      · replace hf := ifT c_51 hf
        refine ww_iconst (v := 0) C dL_law_1707 (by decide) ?_
        cases hf

set_option maxHeartbeats 8000000 in
set_option maxRecDepth 100000 in
theorem w_L_law_1712 {E : Ex} {K : Kx} (C : Cx E K cL_law 9 (some .boolean) RL wsL_law rmL_law) {a0 : Nat → Nat} {a1 : Nat → Nat} {a2 : Nat → Nat} {a3 : Nat → Nat} {q4 : Nat} {ah4 : Nat → Nat → Nat} {a5 : Nat → Nat} {a6 : Nat → Nat} {a7 : Nat → Nat} {a8 : Nat → Nat} {a9 : Nat → Nat} {a10 : Nat → Nat} {a11 : Nat → Nat} {a12 : Nat → Nat} {a13 : Nat → Nat} {a14 : Nat → Nat} {q15 : Nat} {q16 : Nat} {a17 : Nat → Nat} {q18 : Nat} {q19 : Nat} {bS L : Nat} {xs : Nat → Int32} {Q : State → Prop} (T0 : TL E K) (S0 : SX bS L xs K) (HR : ∀ (c s : Nat) (lv : List (Nat × Value)) (gs : List va_W), c ≤ 601024 → s ≤ 7293034 → WW E K c s Q 2236 lv [.int 1] gs) {c s : Nat} (hc : c + 3 ≤ 601024) (hs : s + 18 ≤ 7293034) {k23 : Int32 → GWV → HouseV → HouseV → HistV → (Nat → HouseV) → HouseV → SightV → SightV → BestV → HouseV → SightV → IntrV → ToksV → QReadV → (Nat → Int32) → (Nat → Int32) → ModelV → (Nat → Int64) → Option Unit} (hk23 : ∀ (x4 : Int32) (v0 : GWV) (v1 : HouseV) (v2 : HouseV) (v3 : HistV) (v4 : Nat → HouseV) (v5 : HouseV) (v6 : SightV) (v7 : SightV) (v8 : BestV) (v9 : HouseV) (v10 : SightV) (v11 : IntrV) (v12 : ToksV) (v14 : QReadV) (v15 : Nat → Int32) (v16 : Nat → Int32) (v17 : ModelV) (v19 : Nat → Int64), k23 x4 v0 v1 v2 v3 v4 v5 v6 v7 v8 v9 v10 v11 v12 v14 v15 v16 v17 v19 = some () → WW E K (c + 3) (s + 18) Q 23 [(0, .ref bS), (1, .ref (a0 0)), (2, .ref (a17 0)), (3, .ref q19), (4, .int x4)] [] [wGW E a0 (rf10 (a1 0) (a2 0) (a3 0) (a6 0) (a7 0) (a8 0) (a11 0) (a12 0) (a13 0) (a14 0)) v0, wHouse E a1 v1, wHouse E a2 v2, wHist E a3 (rf2 q4 (a5 0)) v3, wHs E q4 ah4 v4, wHouse E a5 v5, wSight E a6 v6, wSight E a7 v7, wBest E a8 (rf2 (a9 0) (a10 0)) v8, wHouse E a9 v9, wSight E a10 v10, wIntr E a11 v11, wToks E a12 v12, wHRead E a13 (rf1 (a12 0)), wQRead E a14 (rf3 (a12 0) q15 q16) v14, wArr E q15 12 v15, wArr E q16 12 v16, wModel E a17 (rf2 (a17 1) q18) v17, wNm E q18, wLon E q19 v19]) {x4 : Int32} {v0 : GWV} {v1 : HouseV} {v2 : HouseV} {v3 : HistV} {v4 : Nat → HouseV} {v5 : HouseV} {v6 : SightV} {v7 : SightV} {v8 : BestV} {v9 : HouseV} {v10 : SightV} {v11 : IntrV} {v12 : ToksV} {v14 : QReadV} {v15 : Nat → Int32} {v16 : Nat → Int32} {v17 : ModelV} {v19 : Nat → Int64} (hf : Law_1712 L xs k23 x4 v0 v1 v2 v3 v4 v5 v6 v7 v8 v9 v10 v11 v12 v14 v15 v16 v17 v19 = some ()) : WW E K c s Q 1712 [(0, .ref bS), (1, .ref (a0 0)), (2, .ref (a17 0)), (3, .ref q19), (4, .int x4)] [] [wGW E a0 (rf10 (a1 0) (a2 0) (a3 0) (a6 0) (a7 0) (a8 0) (a11 0) (a12 0) (a13 0) (a14 0)) v0, wHouse E a1 v1, wHouse E a2 v2, wHist E a3 (rf2 q4 (a5 0)) v3, wHs E q4 ah4 v4, wHouse E a5 v5, wSight E a6 v6, wSight E a7 v7, wBest E a8 (rf2 (a9 0) (a10 0)) v8, wHouse E a9 v9, wSight E a10 v10, wIntr E a11 v11, wToks E a12 v12, wHRead E a13 (rf1 (a12 0)), wQRead E a14 (rf3 (a12 0) q15 q16) v14, wArr E q15 12 v15, wArr E q16 12 v16, wModel E a17 (rf2 (a17 1) q18) v17, wNm E q18, wLon E q19 v19] := by
  rw [Law_1712] at hf
  refine ww_aload_n C dL_law_1712 rfl 1 rfl ?_
  refine ww_aload_n C dL_law_1713 rfl 0 rfl ?_
  refine ww_iload C dL_law_1714 4 rfl ?_
  refine ww_iconst (v := 1) C dL_law_1716 (by decide) ?_
  refine ww_iadd C dL_law_1717 ?_
  obtain ⟨g_42, hf⟩ := gdE hf
  refine ww_sld C S0 (inB_vp g_42) dL_law_1718 ?_
  refine ww_aload_n C dL_law_1719 rfl 3 rfl ?_
  obtain ⟨p1720, hp1720, hf⟩ := bdE hf
  refine ww_callSL C T0 (As := [.ref (a0 0), .int (xs (Int32.toNatClampNeg (x4 + 1))), .ref q19]) (st := []) (gr := [wHouse E a2 v2, wHouse E a5 v5, wSight E a6 v6, wSight E a7 v7, wBest E a8 (rf2 (a9 0) (a10 0)) v8, wHouse E a9 v9, wSight E a10 v10, wIntr E a11 v11, wToks E a12 v12, wHRead E a13 (rf1 (a12 0)), wQRead E a14 (rf3 (a12 0) q15 q16) v14, wArr E q15 12 v15, wArr E q16 12 v16, wModel E a17 (rf2 (a17 1) q18) v17, wNm E q18]) (c_L_pass (E := E) (a0 := a0) (h0_1 := a2 0) (h0_3 := a6 0) (h0_4 := a7 0) (h0_5 := a8 0) (h0_6 := a11 0) (h0_7 := a12 0) (h0_8 := a13 0) (h0_9 := a14 0) (a1 := a1) (a2 := a3) (h2_1 := a5 0) (q3 := q4) (ah3 := ah4) (q4 := q19) hp1720) gL_law_L_pass rfl ysk_L_pass ⟨by decide, by decide⟩ ⟨by show c + 1 ≤ 601024; omega, by show s + 6 ≤ 7293034; omega⟩ [0, 1, 3, 4, 19] [2, 5, 6, 7, 8, 9, 10, 11, 12, 13, 14, 15, 16, 17, 18] 20 rfl (by decide) rfl rfl (Nat.le_of_ble_eq_true rfl) dL_law_1720 ?_
  rintro _ _ ⟨rfl, rfl⟩
  refine ww_perm (gs' := [wGW E a0 (rf10 (a1 0) (a2 0) (a3 0) (a6 0) (a7 0) (a8 0) (a11 0) (a12 0) (a13 0) (a14 0)) v0, wHouse E a1 p1720.2.1, wHouse E a2 v2, wHist E a3 (rf2 q4 (a5 0)) p1720.2.2.1, wHs E q4 ah4 p1720.2.2.2.1, wHouse E a5 v5, wSight E a6 v6, wSight E a7 v7, wBest E a8 (rf2 (a9 0) (a10 0)) v8, wHouse E a9 v9, wSight E a10 v10, wIntr E a11 v11, wToks E a12 v12, wHRead E a13 (rf1 (a12 0)), wQRead E a14 (rf3 (a12 0) q15 q16) v14, wArr E q15 12 v15, wArr E q16 12 v16, wModel E a17 (rf2 (a17 1) q18) v17, wNm E q18, wLon E q19 p1720.2.2.2.2]) [0, 1, 5, 2, 3, 6, 7, 8, 9, 10, 11, 12, 13, 14, 15, 16, 17, 18, 19, 4] 20 rfl (by decide) rfl ?_
  refine ww_istore (lv' := [(5, .int p1720.1), (0, .ref bS), (1, .ref (a0 0)), (2, .ref (a17 0)), (3, .ref q19), (4, .int x4)]) C dL_law_1723 (by decide) rfl ?_
  refine ww_aload_n C dL_law_1725 rfl 3 rfl ?_
  refine ww_aload_n C dL_law_1726 rfl 1 rfl ?_
  refine ww_iload C dL_law_1727 5 rfl ?_
  refine ww_iconst (v := 1) C dL_law_1729 (by decide) ?_
  refine ww_iadd C dL_law_1730 ?_
  refine ww_sld C S0 (inB_vp g_42) dL_law_1731 ?_
  obtain ⟨p1732, hp1732, hf⟩ := bdE hf
  refine ww_callV C (As := [.int (xs (Int32.toNatClampNeg (x4 + 1)))]) (st := []) (gr := [wGW E a0 (rf10 (a1 0) (a2 0) (a3 0) (a6 0) (a7 0) (a8 0) (a11 0) (a12 0) (a13 0) (a14 0)) v0, wHouse E a1 p1720.2.1, wHouse E a2 v2, wHist E a3 (rf2 q4 (a5 0)) p1720.2.2.1, wHs E q4 ah4 p1720.2.2.2.1, wHouse E a5 v5, wSight E a6 v6, wSight E a7 v7, wBest E a8 (rf2 (a9 0) (a10 0)) v8, wHouse E a9 v9, wSight E a10 v10, wIntr E a11 v11, wToks E a12 v12, wHRead E a13 (rf1 (a12 0)), wQRead E a14 (rf3 (a12 0) q15 q16) v14, wArr E q15 12 v15, wArr E q16 12 v16, wNm E q18, wLon E q19 p1720.2.2.2.2]) (c_X9_pass (E := E) (a0 := a17) (h0_1 := q18) hp1732) gL_law_X9_pass rfl yk_X9_pass ⟨by decide, by decide⟩ ⟨by show c + 1 + 0 ≤ 601024; omega, by show s + 6 + 0 ≤ 7293034; omega⟩ clOK9 0 0 rfl rfl [17] [0, 1, 2, 3, 4, 5, 6, 7, 8, 9, 10, 11, 12, 13, 14, 15, 16, 18, 19] 20 rfl (by decide) rfl rfl (Nat.le_of_ble_eq_true rfl) dL_law_1732 ?_
  rintro _ _ ⟨rfl, rfl⟩
  refine ww_perm (gs' := [wGW E a0 (rf10 (a1 0) (a2 0) (a3 0) (a6 0) (a7 0) (a8 0) (a11 0) (a12 0) (a13 0) (a14 0)) v0, wHouse E a1 p1720.2.1, wHouse E a2 v2, wHist E a3 (rf2 q4 (a5 0)) p1720.2.2.1, wHs E q4 ah4 p1720.2.2.2.1, wHouse E a5 v5, wSight E a6 v6, wSight E a7 v7, wBest E a8 (rf2 (a9 0) (a10 0)) v8, wHouse E a9 v9, wSight E a10 v10, wIntr E a11 v11, wToks E a12 v12, wHRead E a13 (rf1 (a12 0)), wQRead E a14 (rf3 (a12 0) q15 q16) v14, wArr E q15 12 v15, wArr E q16 12 v16, wModel E a17 (rf2 (a17 1) q18) p1732.2, wNm E q18, wLon E q19 p1720.2.2.2.2]) [1, 2, 3, 4, 5, 6, 7, 8, 9, 10, 11, 12, 13, 14, 15, 16, 17, 0, 18, 19] 20 rfl (by decide) rfl ?_
  refine ww_istore (lv' := [(6, .int p1732.1), (5, .int p1720.1), (0, .ref bS), (1, .ref (a0 0)), (2, .ref (a17 0)), (3, .ref q19), (4, .int x4)]) C dL_law_1735 (by decide) rfl ?_
  refine ww_aload_n C dL_law_1737 rfl 4 rfl ?_
  obtain ⟨p1738, hp1738, hf⟩ := bdE hf
  refine ww_callV C (As := []) (st := []) (gr := [wGW E a0 (rf10 (a1 0) (a2 0) (a3 0) (a6 0) (a7 0) (a8 0) (a11 0) (a12 0) (a13 0) (a14 0)) v0, wHouse E a1 p1720.2.1, wHouse E a2 v2, wHist E a3 (rf2 q4 (a5 0)) p1720.2.2.1, wHs E q4 ah4 p1720.2.2.2.1, wHouse E a5 v5, wSight E a6 v6, wSight E a7 v7, wBest E a8 (rf2 (a9 0) (a10 0)) v8, wHouse E a9 v9, wSight E a10 v10, wIntr E a11 v11, wToks E a12 v12, wHRead E a13 (rf1 (a12 0)), wQRead E a14 (rf3 (a12 0) q15 q16) v14, wArr E q15 12 v15, wArr E q16 12 v16, wNm E q18, wLon E q19 p1720.2.2.2.2]) (c_X9_thrown (E := E) (a0 := a17) (h0_0 := a17 1) (h0_1 := q18) hp1738) gL_law_X9_thrown rfl yk_X9_thrown ⟨by decide, by decide⟩ ⟨by show c + 1 + 0 + 0 ≤ 601024; omega, by show s + 6 + 0 + 0 ≤ 7293034; omega⟩ clOK9 0 0 rfl rfl [17] [0, 1, 2, 3, 4, 5, 6, 7, 8, 9, 10, 11, 12, 13, 14, 15, 16, 18, 19] 20 rfl (by decide) rfl rfl (Nat.le_of_ble_eq_true rfl) dL_law_1738 ?_
  rintro _ _ ⟨rfl, rfl⟩
  refine ww_perm (gs' := [wGW E a0 (rf10 (a1 0) (a2 0) (a3 0) (a6 0) (a7 0) (a8 0) (a11 0) (a12 0) (a13 0) (a14 0)) v0, wHouse E a1 p1720.2.1, wHouse E a2 v2, wHist E a3 (rf2 q4 (a5 0)) p1720.2.2.1, wHs E q4 ah4 p1720.2.2.2.1, wHouse E a5 v5, wSight E a6 v6, wSight E a7 v7, wBest E a8 (rf2 (a9 0) (a10 0)) v8, wHouse E a9 v9, wSight E a10 v10, wIntr E a11 v11, wToks E a12 v12, wHRead E a13 (rf1 (a12 0)), wQRead E a14 (rf3 (a12 0) q15 q16) v14, wArr E q15 12 v15, wArr E q16 12 v16, wModel E a17 (rf2 (a17 1) q18) p1732.2, wNm E q18, wLon E q19 p1720.2.2.2.2]) [1, 2, 3, 4, 5, 6, 7, 8, 9, 10, 11, 12, 13, 14, 15, 16, 17, 0, 18, 19] 20 rfl (by decide) rfl ?_
  refine ww_iload C dL_law_1741 1 rfl ?_
  refine ww_icmp_eq (tgt := 1748) C dL_law_1743 (by decide) (fun c_43 => ?_) (fun c_43 => ?_)
  · replace hf := ifT c_43 hf
    refine ww_iload C dL_law_1748 1 rfl ?_
    refine ww_if_ne (tgt := 1765) C dL_law_1750 (by decide) (fun c_44 => ?_) (fun c_44 => ?_)
    · replace hf := ifF c_44 hf
      refine ww_goto (tgt := 2229) C dL_law_1765 (by decide) ?_
      obtain ⟨x4_2229, e_x4_2229⟩ : ∃ y : Int32, y = x4 + 6 := ⟨_, rfl⟩
      replace hf := ltE e_x4_2229 hf
      refine ww_iinc (v := x4_2229) (lv' := [(4, .int x4_2229), (6, .int p1732.1), (5, .int p1720.1), (0, .ref bS), (1, .ref (a0 0)), (2, .ref (a17 0)), (3, .ref q19)]) C dL_law_2229 6 rfl (by rw [e_x4_2229]; rfl) (by decide) rfl ?_
      refine ww_goto (tgt := 23) C dL_law_2232 (by decide) ?_
      refine ww_sub C (lv' := [(0, .ref bS), (1, .ref (a0 0)), (2, .ref (a17 0)), (3, .ref q19), (4, .int x4_2229)]) [3, 4, 5, 6, 0] rfl ?_
      refine ww_widen (k := c + 3) (n := s + 18) (by show c + 1 + 0 + 0 ≤ c + 3; omega) (by show s + 6 + 0 + 0 ≤ s + 18; omega) ?_
      exact hk23 _ _ _ _ _ _ _ _ _ _ _ _ _ _ _ _ _ _ _ hf
    · replace hf := ifT c_44 hf
      refine ww_aload_n C dL_law_1753 rfl 5 rfl ?_
      refine ww_iconst (v := 0) C dL_law_1754 (by decide) ?_
      obtain ⟨g_45, hf⟩ := gdE hf
      refine ww_lald C (f := p1720.2.2.2.2) (w := wLon E q19 p1720.2.2.2.2) 19 0 rfl q_Lon (inB_vp g_45) dL_law_1755 ?_
      refine ww_iload C dL_law_1756 0 rfl ?_
      refine ww_i2l C dL_law_1758 ?_
      refine ww_lcmp C dL_law_1759 ?_
      refine ww_if_eq (tgt := 1765) C dL_law_1760 (by decide) (fun c_46 => ?_) (fun c_46 => ?_)
      · replace hf := ifT c_46 hf
        refine ww_goto (tgt := 2229) C dL_law_1765 (by decide) ?_
        obtain ⟨x4_2229, e_x4_2229⟩ : ∃ y : Int32, y = x4 + 6 := ⟨_, rfl⟩
        replace hf := ltE e_x4_2229 hf
        refine ww_iinc (v := x4_2229) (lv' := [(4, .int x4_2229), (6, .int p1732.1), (5, .int p1720.1), (0, .ref bS), (1, .ref (a0 0)), (2, .ref (a17 0)), (3, .ref q19)]) C dL_law_2229 6 rfl (by rw [e_x4_2229]; rfl) (by decide) rfl ?_
        refine ww_goto (tgt := 23) C dL_law_2232 (by decide) ?_
        refine ww_sub C (lv' := [(0, .ref bS), (1, .ref (a0 0)), (2, .ref (a17 0)), (3, .ref q19), (4, .int x4_2229)]) [3, 4, 5, 6, 0] rfl ?_
        refine ww_widen (k := c + 3) (n := s + 18) (by show c + 1 + 0 + 0 ≤ c + 3; omega) (by show s + 6 + 0 + 0 ≤ s + 18; omega) ?_
        exact hk23 _ _ _ _ _ _ _ _ _ _ _ _ _ _ _ _ _ _ _ hf
      · replace hf := ifF c_46 hf
        refine ww_iconst (v := 0) C dL_law_1763 (by decide) ?_
        cases hf
  · replace hf := ifF c_43 hf
    refine ww_iconst (v := 0) C dL_law_1746 (by decide) ?_
    cases hf

set_option maxHeartbeats 8000000 in
set_option maxRecDepth 100000 in
theorem w_L_law_1768 {E : Ex} {K : Kx} (C : Cx E K cL_law 9 (some .boolean) RL wsL_law rmL_law) {a0 : Nat → Nat} {a1 : Nat → Nat} {a2 : Nat → Nat} {a3 : Nat → Nat} {q4 : Nat} {ah4 : Nat → Nat → Nat} {a5 : Nat → Nat} {a6 : Nat → Nat} {a7 : Nat → Nat} {a8 : Nat → Nat} {a9 : Nat → Nat} {a10 : Nat → Nat} {a11 : Nat → Nat} {a12 : Nat → Nat} {a13 : Nat → Nat} {a14 : Nat → Nat} {q15 : Nat} {q16 : Nat} {a17 : Nat → Nat} {q18 : Nat} {q19 : Nat} {bS L : Nat} {xs : Nat → Int32} {Q : State → Prop} (T0 : TL E K) (S0 : SX bS L xs K) (HR : ∀ (c s : Nat) (lv : List (Nat × Value)) (gs : List va_W), c ≤ 601024 → s ≤ 7293034 → WW E K c s Q 2236 lv [.int 1] gs) {c s : Nat} (hc : c + 3 ≤ 601024) (hs : s + 18 ≤ 7293034) {k23 : Int32 → GWV → HouseV → HouseV → HistV → (Nat → HouseV) → HouseV → SightV → SightV → BestV → HouseV → SightV → IntrV → ToksV → QReadV → (Nat → Int32) → (Nat → Int32) → ModelV → (Nat → Int64) → Option Unit} (hk23 : ∀ (x4 : Int32) (v0 : GWV) (v1 : HouseV) (v2 : HouseV) (v3 : HistV) (v4 : Nat → HouseV) (v5 : HouseV) (v6 : SightV) (v7 : SightV) (v8 : BestV) (v9 : HouseV) (v10 : SightV) (v11 : IntrV) (v12 : ToksV) (v14 : QReadV) (v15 : Nat → Int32) (v16 : Nat → Int32) (v17 : ModelV) (v19 : Nat → Int64), k23 x4 v0 v1 v2 v3 v4 v5 v6 v7 v8 v9 v10 v11 v12 v14 v15 v16 v17 v19 = some () → WW E K (c + 3) (s + 18) Q 23 [(0, .ref bS), (1, .ref (a0 0)), (2, .ref (a17 0)), (3, .ref q19), (4, .int x4)] [] [wGW E a0 (rf10 (a1 0) (a2 0) (a3 0) (a6 0) (a7 0) (a8 0) (a11 0) (a12 0) (a13 0) (a14 0)) v0, wHouse E a1 v1, wHouse E a2 v2, wHist E a3 (rf2 q4 (a5 0)) v3, wHs E q4 ah4 v4, wHouse E a5 v5, wSight E a6 v6, wSight E a7 v7, wBest E a8 (rf2 (a9 0) (a10 0)) v8, wHouse E a9 v9, wSight E a10 v10, wIntr E a11 v11, wToks E a12 v12, wHRead E a13 (rf1 (a12 0)), wQRead E a14 (rf3 (a12 0) q15 q16) v14, wArr E q15 12 v15, wArr E q16 12 v16, wModel E a17 (rf2 (a17 1) q18) v17, wNm E q18, wLon E q19 v19]) {x4 : Int32} {v0 : GWV} {v1 : HouseV} {v2 : HouseV} {v3 : HistV} {v4 : Nat → HouseV} {v5 : HouseV} {v6 : SightV} {v7 : SightV} {v8 : BestV} {v9 : HouseV} {v10 : SightV} {v11 : IntrV} {v12 : ToksV} {v14 : QReadV} {v15 : Nat → Int32} {v16 : Nat → Int32} {v17 : ModelV} {v19 : Nat → Int64} (hf : Law_1768 L xs k23 x4 v0 v1 v2 v3 v4 v5 v6 v7 v8 v9 v10 v11 v12 v14 v15 v16 v17 v19 = some ()) : WW E K c s Q 1768 [(0, .ref bS), (1, .ref (a0 0)), (2, .ref (a17 0)), (3, .ref q19), (4, .int x4)] [] [wGW E a0 (rf10 (a1 0) (a2 0) (a3 0) (a6 0) (a7 0) (a8 0) (a11 0) (a12 0) (a13 0) (a14 0)) v0, wHouse E a1 v1, wHouse E a2 v2, wHist E a3 (rf2 q4 (a5 0)) v3, wHs E q4 ah4 v4, wHouse E a5 v5, wSight E a6 v6, wSight E a7 v7, wBest E a8 (rf2 (a9 0) (a10 0)) v8, wHouse E a9 v9, wSight E a10 v10, wIntr E a11 v11, wToks E a12 v12, wHRead E a13 (rf1 (a12 0)), wQRead E a14 (rf3 (a12 0) q15 q16) v14, wArr E q15 12 v15, wArr E q16 12 v16, wModel E a17 (rf2 (a17 1) q18) v17, wNm E q18, wLon E q19 v19] := by
  rw [Law_1768] at hf
  refine ww_aload_n C dL_law_1768 rfl 1 rfl ?_
  refine ww_aload_n C dL_law_1769 rfl 0 rfl ?_
  refine ww_iload C dL_law_1770 4 rfl ?_
  refine ww_iconst (v := 1) C dL_law_1772 (by decide) ?_
  refine ww_iadd C dL_law_1773 ?_
  obtain ⟨g_36, hf⟩ := gdE hf
  refine ww_sld C S0 (inB_vp g_36) dL_law_1774 ?_
  refine ww_aload_n C dL_law_1775 rfl 0 rfl ?_
  refine ww_iload C dL_law_1776 4 rfl ?_
  refine ww_iconst (v := 2) C dL_law_1778 (by decide) ?_
  refine ww_iadd C dL_law_1779 ?_
  obtain ⟨g_37, hf⟩ := gdE hf
  refine ww_sld C S0 (inB_vp g_37) dL_law_1780 ?_
  refine ww_aload_n C dL_law_1781 rfl 3 rfl ?_
  obtain ⟨p1782, hp1782, hf⟩ := bdE hf
  refine ww_callSL C T0 (As := [.ref (a0 0), .int (xs (Int32.toNatClampNeg (x4 + 1))), .int (xs (Int32.toNatClampNeg (x4 + 2))), .ref q19]) (st := []) (gr := [wHouse E a2 v2, wHouse E a5 v5, wSight E a7 v7, wBest E a8 (rf2 (a9 0) (a10 0)) v8, wHouse E a9 v9, wSight E a10 v10, wIntr E a11 v11, wToks E a12 v12, wHRead E a13 (rf1 (a12 0)), wQRead E a14 (rf3 (a12 0) q15 q16) v14, wArr E q15 12 v15, wArr E q16 12 v16, wModel E a17 (rf2 (a17 1) q18) v17, wNm E q18]) (c_L_shift (E := E) (a0 := a0) (h0_1 := a2 0) (h0_4 := a7 0) (h0_5 := a8 0) (h0_6 := a11 0) (h0_7 := a12 0) (h0_8 := a13 0) (h0_9 := a14 0) (a1 := a1) (a2 := a3) (h2_1 := a5 0) (q3 := q4) (ah3 := ah4) (a4 := a6) (q5 := q19) hp1782) gL_law_L_shift rfl ysk_L_shift ⟨by decide, by decide⟩ ⟨by show c + 2 ≤ 601024; omega, by show s + 12 ≤ 7293034; omega⟩ [0, 1, 3, 4, 6, 19] [2, 5, 7, 8, 9, 10, 11, 12, 13, 14, 15, 16, 17, 18] 20 rfl (by decide) rfl rfl (Nat.le_of_ble_eq_true rfl) dL_law_1782 ?_
  rintro _ _ ⟨rfl, rfl⟩
  refine ww_perm (gs' := [wGW E a0 (rf10 (a1 0) (a2 0) (a3 0) (a6 0) (a7 0) (a8 0) (a11 0) (a12 0) (a13 0) (a14 0)) p1782.2.1, wHouse E a1 p1782.2.2.1, wHouse E a2 v2, wHist E a3 (rf2 q4 (a5 0)) p1782.2.2.2.1, wHs E q4 ah4 p1782.2.2.2.2.1, wHouse E a5 v5, wSight E a6 p1782.2.2.2.2.2.1, wSight E a7 v7, wBest E a8 (rf2 (a9 0) (a10 0)) v8, wHouse E a9 v9, wSight E a10 v10, wIntr E a11 v11, wToks E a12 v12, wHRead E a13 (rf1 (a12 0)), wQRead E a14 (rf3 (a12 0) q15 q16) v14, wArr E q15 12 v15, wArr E q16 12 v16, wModel E a17 (rf2 (a17 1) q18) v17, wNm E q18, wLon E q19 p1782.2.2.2.2.2.2]) [0, 1, 6, 2, 3, 7, 4, 8, 9, 10, 11, 12, 13, 14, 15, 16, 17, 18, 19, 5] 20 rfl (by decide) rfl ?_
  refine ww_istore (lv' := [(5, .int p1782.1), (0, .ref bS), (1, .ref (a0 0)), (2, .ref (a17 0)), (3, .ref q19), (4, .int x4)]) C dL_law_1785 (by decide) rfl ?_
  refine ww_aload_n C dL_law_1787 rfl 3 rfl ?_
  refine ww_aload_n C dL_law_1788 rfl 1 rfl ?_
  refine ww_iload C dL_law_1789 5 rfl ?_
  refine ww_iconst (v := 1) C dL_law_1791 (by decide) ?_
  refine ww_iadd C dL_law_1792 ?_
  refine ww_sld C S0 (inB_vp g_36) dL_law_1793 ?_
  refine ww_aload_n C dL_law_1794 rfl 1 rfl ?_
  refine ww_iload C dL_law_1795 5 rfl ?_
  refine ww_iconst (v := 2) C dL_law_1797 (by decide) ?_
  refine ww_iadd C dL_law_1798 ?_
  refine ww_sld C S0 (inB_vp g_37) dL_law_1799 ?_
  obtain ⟨p1800, hp1800, hf⟩ := bdE hf
  refine ww_callV C (As := [.int (xs (Int32.toNatClampNeg (x4 + 1))), .int (xs (Int32.toNatClampNeg (x4 + 2)))]) (st := []) (gr := [wGW E a0 (rf10 (a1 0) (a2 0) (a3 0) (a6 0) (a7 0) (a8 0) (a11 0) (a12 0) (a13 0) (a14 0)) p1782.2.1, wHouse E a1 p1782.2.2.1, wHouse E a2 v2, wHist E a3 (rf2 q4 (a5 0)) p1782.2.2.2.1, wHs E q4 ah4 p1782.2.2.2.2.1, wHouse E a5 v5, wSight E a6 p1782.2.2.2.2.2.1, wSight E a7 v7, wBest E a8 (rf2 (a9 0) (a10 0)) v8, wHouse E a9 v9, wSight E a10 v10, wIntr E a11 v11, wToks E a12 v12, wHRead E a13 (rf1 (a12 0)), wQRead E a14 (rf3 (a12 0) q15 q16) v14, wArr E q15 12 v15, wArr E q16 12 v16, wNm E q18, wLon E q19 p1782.2.2.2.2.2.2]) (c_X9_shift (E := E) (a0 := a17) (h0_1 := q18) hp1800) gL_law_X9_shift rfl yk_X9_shift ⟨by decide, by decide⟩ ⟨by show c + 2 + 0 ≤ 601024; omega, by show s + 12 + 0 ≤ 7293034; omega⟩ clOK9 0 0 rfl rfl [17] [0, 1, 2, 3, 4, 5, 6, 7, 8, 9, 10, 11, 12, 13, 14, 15, 16, 18, 19] 20 rfl (by decide) rfl rfl (Nat.le_of_ble_eq_true rfl) dL_law_1800 ?_
  rintro _ _ ⟨rfl, rfl⟩
  refine ww_perm (gs' := [wGW E a0 (rf10 (a1 0) (a2 0) (a3 0) (a6 0) (a7 0) (a8 0) (a11 0) (a12 0) (a13 0) (a14 0)) p1782.2.1, wHouse E a1 p1782.2.2.1, wHouse E a2 v2, wHist E a3 (rf2 q4 (a5 0)) p1782.2.2.2.1, wHs E q4 ah4 p1782.2.2.2.2.1, wHouse E a5 v5, wSight E a6 p1782.2.2.2.2.2.1, wSight E a7 v7, wBest E a8 (rf2 (a9 0) (a10 0)) v8, wHouse E a9 v9, wSight E a10 v10, wIntr E a11 v11, wToks E a12 v12, wHRead E a13 (rf1 (a12 0)), wQRead E a14 (rf3 (a12 0) q15 q16) v14, wArr E q15 12 v15, wArr E q16 12 v16, wModel E a17 (rf2 (a17 1) q18) p1800.2, wNm E q18, wLon E q19 p1782.2.2.2.2.2.2]) [1, 2, 3, 4, 5, 6, 7, 8, 9, 10, 11, 12, 13, 14, 15, 16, 17, 0, 18, 19] 20 rfl (by decide) rfl ?_
  refine ww_istore (lv' := [(6, .int p1800.1), (5, .int p1782.1), (0, .ref bS), (1, .ref (a0 0)), (2, .ref (a17 0)), (3, .ref q19), (4, .int x4)]) C dL_law_1803 (by decide) rfl ?_
  refine ww_aload_n C dL_law_1805 rfl 4 rfl ?_
  obtain ⟨p1806, hp1806, hf⟩ := bdE hf
  refine ww_callV C (As := []) (st := []) (gr := [wGW E a0 (rf10 (a1 0) (a2 0) (a3 0) (a6 0) (a7 0) (a8 0) (a11 0) (a12 0) (a13 0) (a14 0)) p1782.2.1, wHouse E a1 p1782.2.2.1, wHouse E a2 v2, wHist E a3 (rf2 q4 (a5 0)) p1782.2.2.2.1, wHs E q4 ah4 p1782.2.2.2.2.1, wHouse E a5 v5, wSight E a6 p1782.2.2.2.2.2.1, wSight E a7 v7, wBest E a8 (rf2 (a9 0) (a10 0)) v8, wHouse E a9 v9, wSight E a10 v10, wIntr E a11 v11, wToks E a12 v12, wHRead E a13 (rf1 (a12 0)), wQRead E a14 (rf3 (a12 0) q15 q16) v14, wArr E q15 12 v15, wArr E q16 12 v16, wNm E q18, wLon E q19 p1782.2.2.2.2.2.2]) (c_X9_thrown (E := E) (a0 := a17) (h0_0 := a17 1) (h0_1 := q18) hp1806) gL_law_X9_thrown rfl yk_X9_thrown ⟨by decide, by decide⟩ ⟨by show c + 2 + 0 + 0 ≤ 601024; omega, by show s + 12 + 0 + 0 ≤ 7293034; omega⟩ clOK9 0 0 rfl rfl [17] [0, 1, 2, 3, 4, 5, 6, 7, 8, 9, 10, 11, 12, 13, 14, 15, 16, 18, 19] 20 rfl (by decide) rfl rfl (Nat.le_of_ble_eq_true rfl) dL_law_1806 ?_
  rintro _ _ ⟨rfl, rfl⟩
  refine ww_perm (gs' := [wGW E a0 (rf10 (a1 0) (a2 0) (a3 0) (a6 0) (a7 0) (a8 0) (a11 0) (a12 0) (a13 0) (a14 0)) p1782.2.1, wHouse E a1 p1782.2.2.1, wHouse E a2 v2, wHist E a3 (rf2 q4 (a5 0)) p1782.2.2.2.1, wHs E q4 ah4 p1782.2.2.2.2.1, wHouse E a5 v5, wSight E a6 p1782.2.2.2.2.2.1, wSight E a7 v7, wBest E a8 (rf2 (a9 0) (a10 0)) v8, wHouse E a9 v9, wSight E a10 v10, wIntr E a11 v11, wToks E a12 v12, wHRead E a13 (rf1 (a12 0)), wQRead E a14 (rf3 (a12 0) q15 q16) v14, wArr E q15 12 v15, wArr E q16 12 v16, wModel E a17 (rf2 (a17 1) q18) p1800.2, wNm E q18, wLon E q19 p1782.2.2.2.2.2.2]) [1, 2, 3, 4, 5, 6, 7, 8, 9, 10, 11, 12, 13, 14, 15, 16, 17, 0, 18, 19] 20 rfl (by decide) rfl ?_
  refine ww_iload C dL_law_1809 1 rfl ?_
  refine ww_icmp_eq (tgt := 1816) C dL_law_1811 (by decide) (fun c_38 => ?_) (fun c_38 => ?_)
  · replace hf := ifT c_38 hf
    refine ww_iload C dL_law_1816 1 rfl ?_
    refine ww_if_ne (tgt := 1833) C dL_law_1818 (by decide) (fun c_39 => ?_) (fun c_39 => ?_)
    · replace hf := ifF c_39 hf
      refine ww_goto (tgt := 2229) C dL_law_1833 (by decide) ?_
      obtain ⟨x4_2229, e_x4_2229⟩ : ∃ y : Int32, y = x4 + 6 := ⟨_, rfl⟩
      replace hf := ltE e_x4_2229 hf
      refine ww_iinc (v := x4_2229) (lv' := [(4, .int x4_2229), (6, .int p1800.1), (5, .int p1782.1), (0, .ref bS), (1, .ref (a0 0)), (2, .ref (a17 0)), (3, .ref q19)]) C dL_law_2229 6 rfl (by rw [e_x4_2229]; rfl) (by decide) rfl ?_
      refine ww_goto (tgt := 23) C dL_law_2232 (by decide) ?_
      refine ww_sub C (lv' := [(0, .ref bS), (1, .ref (a0 0)), (2, .ref (a17 0)), (3, .ref q19), (4, .int x4_2229)]) [3, 4, 5, 6, 0] rfl ?_
      refine ww_widen (k := c + 3) (n := s + 18) (by show c + 2 + 0 + 0 ≤ c + 3; omega) (by show s + 12 + 0 + 0 ≤ s + 18; omega) ?_
      exact hk23 _ _ _ _ _ _ _ _ _ _ _ _ _ _ _ _ _ _ _ hf
    · replace hf := ifT c_39 hf
      refine ww_aload_n C dL_law_1821 rfl 5 rfl ?_
      refine ww_iconst (v := 0) C dL_law_1822 (by decide) ?_
      obtain ⟨g_40, hf⟩ := gdE hf
      refine ww_lald C (f := p1782.2.2.2.2.2.2) (w := wLon E q19 p1782.2.2.2.2.2.2) 19 0 rfl q_Lon (inB_vp g_40) dL_law_1823 ?_
      refine ww_iload C dL_law_1824 0 rfl ?_
      refine ww_i2l C dL_law_1826 ?_
      refine ww_lcmp C dL_law_1827 ?_
      refine ww_if_eq (tgt := 1833) C dL_law_1828 (by decide) (fun c_41 => ?_) (fun c_41 => ?_)
      · replace hf := ifT c_41 hf
        refine ww_goto (tgt := 2229) C dL_law_1833 (by decide) ?_
        obtain ⟨x4_2229, e_x4_2229⟩ : ∃ y : Int32, y = x4 + 6 := ⟨_, rfl⟩
        replace hf := ltE e_x4_2229 hf
        refine ww_iinc (v := x4_2229) (lv' := [(4, .int x4_2229), (6, .int p1800.1), (5, .int p1782.1), (0, .ref bS), (1, .ref (a0 0)), (2, .ref (a17 0)), (3, .ref q19)]) C dL_law_2229 6 rfl (by rw [e_x4_2229]; rfl) (by decide) rfl ?_
        refine ww_goto (tgt := 23) C dL_law_2232 (by decide) ?_
        refine ww_sub C (lv' := [(0, .ref bS), (1, .ref (a0 0)), (2, .ref (a17 0)), (3, .ref q19), (4, .int x4_2229)]) [3, 4, 5, 6, 0] rfl ?_
        refine ww_widen (k := c + 3) (n := s + 18) (by show c + 2 + 0 + 0 ≤ c + 3; omega) (by show s + 12 + 0 + 0 ≤ s + 18; omega) ?_
        exact hk23 _ _ _ _ _ _ _ _ _ _ _ _ _ _ _ _ _ _ _ hf
      · replace hf := ifF c_41 hf
        refine ww_iconst (v := 0) C dL_law_1831 (by decide) ?_
        cases hf
  · replace hf := ifF c_38 hf
    refine ww_iconst (v := 0) C dL_law_1814 (by decide) ?_
    cases hf

set_option maxHeartbeats 8000000 in
set_option maxRecDepth 100000 in
theorem w_L_law_1836 {E : Ex} {K : Kx} (C : Cx E K cL_law 9 (some .boolean) RL wsL_law rmL_law) {a0 : Nat → Nat} {a1 : Nat → Nat} {a2 : Nat → Nat} {a3 : Nat → Nat} {q4 : Nat} {ah4 : Nat → Nat → Nat} {a5 : Nat → Nat} {a6 : Nat → Nat} {a7 : Nat → Nat} {a8 : Nat → Nat} {a9 : Nat → Nat} {a10 : Nat → Nat} {a11 : Nat → Nat} {a12 : Nat → Nat} {a13 : Nat → Nat} {a14 : Nat → Nat} {q15 : Nat} {q16 : Nat} {a17 : Nat → Nat} {q18 : Nat} {q19 : Nat} {bS L : Nat} {xs : Nat → Int32} {Q : State → Prop} (T0 : TL E K) (S0 : SX bS L xs K) (HR : ∀ (c s : Nat) (lv : List (Nat × Value)) (gs : List va_W), c ≤ 601024 → s ≤ 7293034 → WW E K c s Q 2236 lv [.int 1] gs) {c s : Nat} (hc : c + 3 ≤ 601024) (hs : s + 18 ≤ 7293034) {k23 : Int32 → GWV → HouseV → HouseV → HistV → (Nat → HouseV) → HouseV → SightV → SightV → BestV → HouseV → SightV → IntrV → ToksV → QReadV → (Nat → Int32) → (Nat → Int32) → ModelV → (Nat → Int64) → Option Unit} (hk23 : ∀ (x4 : Int32) (v0 : GWV) (v1 : HouseV) (v2 : HouseV) (v3 : HistV) (v4 : Nat → HouseV) (v5 : HouseV) (v6 : SightV) (v7 : SightV) (v8 : BestV) (v9 : HouseV) (v10 : SightV) (v11 : IntrV) (v12 : ToksV) (v14 : QReadV) (v15 : Nat → Int32) (v16 : Nat → Int32) (v17 : ModelV) (v19 : Nat → Int64), k23 x4 v0 v1 v2 v3 v4 v5 v6 v7 v8 v9 v10 v11 v12 v14 v15 v16 v17 v19 = some () → WW E K (c + 3) (s + 18) Q 23 [(0, .ref bS), (1, .ref (a0 0)), (2, .ref (a17 0)), (3, .ref q19), (4, .int x4)] [] [wGW E a0 (rf10 (a1 0) (a2 0) (a3 0) (a6 0) (a7 0) (a8 0) (a11 0) (a12 0) (a13 0) (a14 0)) v0, wHouse E a1 v1, wHouse E a2 v2, wHist E a3 (rf2 q4 (a5 0)) v3, wHs E q4 ah4 v4, wHouse E a5 v5, wSight E a6 v6, wSight E a7 v7, wBest E a8 (rf2 (a9 0) (a10 0)) v8, wHouse E a9 v9, wSight E a10 v10, wIntr E a11 v11, wToks E a12 v12, wHRead E a13 (rf1 (a12 0)), wQRead E a14 (rf3 (a12 0) q15 q16) v14, wArr E q15 12 v15, wArr E q16 12 v16, wModel E a17 (rf2 (a17 1) q18) v17, wNm E q18, wLon E q19 v19]) {x4 : Int32} {v0 : GWV} {v1 : HouseV} {v2 : HouseV} {v3 : HistV} {v4 : Nat → HouseV} {v5 : HouseV} {v6 : SightV} {v7 : SightV} {v8 : BestV} {v9 : HouseV} {v10 : SightV} {v11 : IntrV} {v12 : ToksV} {v14 : QReadV} {v15 : Nat → Int32} {v16 : Nat → Int32} {v17 : ModelV} {v19 : Nat → Int64} (hf : Law_1836 L xs k23 x4 v0 v1 v2 v3 v4 v5 v6 v7 v8 v9 v10 v11 v12 v14 v15 v16 v17 v19 = some ()) : WW E K c s Q 1836 [(0, .ref bS), (1, .ref (a0 0)), (2, .ref (a17 0)), (3, .ref q19), (4, .int x4)] [] [wGW E a0 (rf10 (a1 0) (a2 0) (a3 0) (a6 0) (a7 0) (a8 0) (a11 0) (a12 0) (a13 0) (a14 0)) v0, wHouse E a1 v1, wHouse E a2 v2, wHist E a3 (rf2 q4 (a5 0)) v3, wHs E q4 ah4 v4, wHouse E a5 v5, wSight E a6 v6, wSight E a7 v7, wBest E a8 (rf2 (a9 0) (a10 0)) v8, wHouse E a9 v9, wSight E a10 v10, wIntr E a11 v11, wToks E a12 v12, wHRead E a13 (rf1 (a12 0)), wQRead E a14 (rf3 (a12 0) q15 q16) v14, wArr E q15 12 v15, wArr E q16 12 v16, wModel E a17 (rf2 (a17 1) q18) v17, wNm E q18, wLon E q19 v19] := by
  rw [Law_1836] at hf
  refine ww_aload_n C dL_law_1836 rfl 1 rfl ?_
  obtain ⟨p1837, hp1837, hf⟩ := bdE hf
  refine ww_callV C (As := []) (st := []) (gr := [wHouse E a2 v2, wHouse E a5 v5, wSight E a6 v6, wSight E a7 v7, wIntr E a11 v11, wToks E a12 v12, wHRead E a13 (rf1 (a12 0)), wQRead E a14 (rf3 (a12 0) q15 q16) v14, wArr E q15 12 v15, wArr E q16 12 v16, wModel E a17 (rf2 (a17 1) q18) v17, wNm E q18, wLon E q19 v19]) (c_X8_adopt (E := E) (a0 := a0) (h0_1 := a2 0) (h0_3 := a6 0) (h0_4 := a7 0) (h0_6 := a11 0) (h0_7 := a12 0) (h0_8 := a13 0) (h0_9 := a14 0) (a1 := a1) (a2 := a3) (h2_1 := a5 0) (q3 := q4) (ah3 := ah4) (a4 := a8) (a5 := a9) (a6 := a10) hp1837) gL_law_X8_adopt rfl yk_X8_adopt ⟨by decide, by decide⟩ ⟨by show c + 0 ≤ 601024; omega, by show s + 0 ≤ 7293034; omega⟩ clOK8 0 0 rfl rfl [0, 1, 3, 4, 8, 9, 10] [2, 5, 6, 7, 11, 12, 13, 14, 15, 16, 17, 18, 19] 20 rfl (by decide) rfl rfl (Nat.le_of_ble_eq_true rfl) dL_law_1837 ?_
  rintro _ _ ⟨rfl, rfl⟩
  refine ww_perm (gs' := [wGW E a0 (rf10 (a1 0) (a2 0) (a3 0) (a6 0) (a7 0) (a8 0) (a11 0) (a12 0) (a13 0) (a14 0)) p1837.2.1, wHouse E a1 p1837.2.2.1, wHouse E a2 v2, wHist E a3 (rf2 q4 (a5 0)) p1837.2.2.2.1, wHs E q4 ah4 p1837.2.2.2.2.1, wHouse E a5 v5, wSight E a6 v6, wSight E a7 v7, wBest E a8 (rf2 (a9 0) (a10 0)) p1837.2.2.2.2.2.1, wHouse E a9 p1837.2.2.2.2.2.2.1, wSight E a10 p1837.2.2.2.2.2.2.2, wIntr E a11 v11, wToks E a12 v12, wHRead E a13 (rf1 (a12 0)), wQRead E a14 (rf3 (a12 0) q15 q16) v14, wArr E q15 12 v15, wArr E q16 12 v16, wModel E a17 (rf2 (a17 1) q18) v17, wNm E q18, wLon E q19 v19]) [0, 1, 7, 2, 3, 8, 9, 10, 4, 5, 6, 11, 12, 13, 14, 15, 16, 17, 18, 19] 20 rfl (by decide) rfl ?_
  refine ww_aload_n C dL_law_1840 rfl 2 rfl ?_
  obtain ⟨p1841, hp1841, hf⟩ := bdE hf
  refine ww_callV C (As := []) (st := [.int p1837.1]) (gr := [wGW E a0 (rf10 (a1 0) (a2 0) (a3 0) (a6 0) (a7 0) (a8 0) (a11 0) (a12 0) (a13 0) (a14 0)) p1837.2.1, wHouse E a1 p1837.2.2.1, wHouse E a2 v2, wHist E a3 (rf2 q4 (a5 0)) p1837.2.2.2.1, wHs E q4 ah4 p1837.2.2.2.2.1, wHouse E a5 v5, wSight E a6 v6, wSight E a7 v7, wBest E a8 (rf2 (a9 0) (a10 0)) p1837.2.2.2.2.2.1, wHouse E a9 p1837.2.2.2.2.2.2.1, wSight E a10 p1837.2.2.2.2.2.2.2, wIntr E a11 v11, wToks E a12 v12, wHRead E a13 (rf1 (a12 0)), wQRead E a14 (rf3 (a12 0) q15 q16) v14, wArr E q15 12 v15, wArr E q16 12 v16, wNm E q18, wLon E q19 v19]) (c_X9_adopt (E := E) (a0 := a17) (h0_1 := q18) hp1841) gL_law_X9_adopt rfl yk_X9_adopt ⟨by decide, by decide⟩ ⟨by show c + 0 + 0 ≤ 601024; omega, by show s + 0 + 0 ≤ 7293034; omega⟩ clOK9 0 0 rfl rfl [17] [0, 1, 2, 3, 4, 5, 6, 7, 8, 9, 10, 11, 12, 13, 14, 15, 16, 18, 19] 20 rfl (by decide) rfl rfl (Nat.le_of_ble_eq_true rfl) dL_law_1841 ?_
  rintro _ _ ⟨rfl, rfl⟩
  refine ww_perm (gs' := [wGW E a0 (rf10 (a1 0) (a2 0) (a3 0) (a6 0) (a7 0) (a8 0) (a11 0) (a12 0) (a13 0) (a14 0)) p1837.2.1, wHouse E a1 p1837.2.2.1, wHouse E a2 v2, wHist E a3 (rf2 q4 (a5 0)) p1837.2.2.2.1, wHs E q4 ah4 p1837.2.2.2.2.1, wHouse E a5 v5, wSight E a6 v6, wSight E a7 v7, wBest E a8 (rf2 (a9 0) (a10 0)) p1837.2.2.2.2.2.1, wHouse E a9 p1837.2.2.2.2.2.2.1, wSight E a10 p1837.2.2.2.2.2.2.2, wIntr E a11 v11, wToks E a12 v12, wHRead E a13 (rf1 (a12 0)), wQRead E a14 (rf3 (a12 0) q15 q16) v14, wArr E q15 12 v15, wArr E q16 12 v16, wModel E a17 (rf2 (a17 1) q18) p1841.2, wNm E q18, wLon E q19 v19]) [1, 2, 3, 4, 5, 6, 7, 8, 9, 10, 11, 12, 13, 14, 15, 16, 17, 0, 18, 19] 20 rfl (by decide) rfl ?_
  refine ww_icmp_eq (tgt := 2229) C dL_law_1844 (by decide) (fun c_35 => ?_) (fun c_35 => ?_)
  · replace hf := ifT c_35 hf
    obtain ⟨x4_2229, e_x4_2229⟩ : ∃ y : Int32, y = x4 + 6 := ⟨_, rfl⟩
    replace hf := ltE e_x4_2229 hf
    refine ww_iinc (v := x4_2229) (lv' := [(4, .int x4_2229), (0, .ref bS), (1, .ref (a0 0)), (2, .ref (a17 0)), (3, .ref q19)]) C dL_law_2229 4 rfl (by rw [e_x4_2229]; rfl) (by decide) rfl ?_
    refine ww_goto (tgt := 23) C dL_law_2232 (by decide) ?_
    refine ww_sub C (lv' := [(0, .ref bS), (1, .ref (a0 0)), (2, .ref (a17 0)), (3, .ref q19), (4, .int x4_2229)]) [1, 2, 3, 4, 0] rfl ?_
    refine ww_widen (k := c + 3) (n := s + 18) (by show c + 0 + 0 ≤ c + 3; omega) (by show s + 0 + 0 ≤ s + 18; omega) ?_
    exact hk23 _ _ _ _ _ _ _ _ _ _ _ _ _ _ _ _ _ _ _ hf
  · replace hf := ifF c_35 hf
    refine ww_iconst (v := 0) C dL_law_1847 (by decide) ?_
    cases hf

set_option maxHeartbeats 8000000 in
set_option maxRecDepth 100000 in
theorem w_L_law_1849 {E : Ex} {K : Kx} (C : Cx E K cL_law 9 (some .boolean) RL wsL_law rmL_law) {a0 : Nat → Nat} {a1 : Nat → Nat} {a2 : Nat → Nat} {a3 : Nat → Nat} {q4 : Nat} {ah4 : Nat → Nat → Nat} {a5 : Nat → Nat} {a6 : Nat → Nat} {a7 : Nat → Nat} {a8 : Nat → Nat} {a9 : Nat → Nat} {a10 : Nat → Nat} {a11 : Nat → Nat} {a12 : Nat → Nat} {a13 : Nat → Nat} {a14 : Nat → Nat} {q15 : Nat} {q16 : Nat} {a17 : Nat → Nat} {q18 : Nat} {q19 : Nat} {bS L : Nat} {xs : Nat → Int32} {Q : State → Prop} (T0 : TL E K) (S0 : SX bS L xs K) (HR : ∀ (c s : Nat) (lv : List (Nat × Value)) (gs : List va_W), c ≤ 601024 → s ≤ 7293034 → WW E K c s Q 2236 lv [.int 1] gs) {c s : Nat} (hc : c + 3 ≤ 601024) (hs : s + 18 ≤ 7293034) {k23 : Int32 → GWV → HouseV → HouseV → HistV → (Nat → HouseV) → HouseV → SightV → SightV → BestV → HouseV → SightV → IntrV → ToksV → QReadV → (Nat → Int32) → (Nat → Int32) → ModelV → (Nat → Int64) → Option Unit} (hk23 : ∀ (x4 : Int32) (v0 : GWV) (v1 : HouseV) (v2 : HouseV) (v3 : HistV) (v4 : Nat → HouseV) (v5 : HouseV) (v6 : SightV) (v7 : SightV) (v8 : BestV) (v9 : HouseV) (v10 : SightV) (v11 : IntrV) (v12 : ToksV) (v14 : QReadV) (v15 : Nat → Int32) (v16 : Nat → Int32) (v17 : ModelV) (v19 : Nat → Int64), k23 x4 v0 v1 v2 v3 v4 v5 v6 v7 v8 v9 v10 v11 v12 v14 v15 v16 v17 v19 = some () → WW E K (c + 3) (s + 18) Q 23 [(0, .ref bS), (1, .ref (a0 0)), (2, .ref (a17 0)), (3, .ref q19), (4, .int x4)] [] [wGW E a0 (rf10 (a1 0) (a2 0) (a3 0) (a6 0) (a7 0) (a8 0) (a11 0) (a12 0) (a13 0) (a14 0)) v0, wHouse E a1 v1, wHouse E a2 v2, wHist E a3 (rf2 q4 (a5 0)) v3, wHs E q4 ah4 v4, wHouse E a5 v5, wSight E a6 v6, wSight E a7 v7, wBest E a8 (rf2 (a9 0) (a10 0)) v8, wHouse E a9 v9, wSight E a10 v10, wIntr E a11 v11, wToks E a12 v12, wHRead E a13 (rf1 (a12 0)), wQRead E a14 (rf3 (a12 0) q15 q16) v14, wArr E q15 12 v15, wArr E q16 12 v16, wModel E a17 (rf2 (a17 1) q18) v17, wNm E q18, wLon E q19 v19]) {x4 : Int32} {v0 : GWV} {v1 : HouseV} {v2 : HouseV} {v3 : HistV} {v4 : Nat → HouseV} {v5 : HouseV} {v6 : SightV} {v7 : SightV} {v8 : BestV} {v9 : HouseV} {v10 : SightV} {v11 : IntrV} {v12 : ToksV} {v14 : QReadV} {v15 : Nat → Int32} {v16 : Nat → Int32} {v17 : ModelV} {v19 : Nat → Int64} (hf : Law_1849 L xs k23 x4 v0 v1 v2 v3 v4 v5 v6 v7 v8 v9 v10 v11 v12 v14 v15 v16 v17 v19 = some ()) : WW E K c s Q 1849 [(0, .ref bS), (1, .ref (a0 0)), (2, .ref (a17 0)), (3, .ref q19), (4, .int x4)] [] [wGW E a0 (rf10 (a1 0) (a2 0) (a3 0) (a6 0) (a7 0) (a8 0) (a11 0) (a12 0) (a13 0) (a14 0)) v0, wHouse E a1 v1, wHouse E a2 v2, wHist E a3 (rf2 q4 (a5 0)) v3, wHs E q4 ah4 v4, wHouse E a5 v5, wSight E a6 v6, wSight E a7 v7, wBest E a8 (rf2 (a9 0) (a10 0)) v8, wHouse E a9 v9, wSight E a10 v10, wIntr E a11 v11, wToks E a12 v12, wHRead E a13 (rf1 (a12 0)), wQRead E a14 (rf3 (a12 0) q15 q16) v14, wArr E q15 12 v15, wArr E q16 12 v16, wModel E a17 (rf2 (a17 1) q18) v17, wNm E q18, wLon E q19 v19] := by
  rw [Law_1849] at hf
  refine ww_aload_n C dL_law_1849 rfl 1 rfl ?_
  refine ww_aload_n C dL_law_1850 rfl 0 rfl ?_
  refine ww_iload C dL_law_1851 4 rfl ?_
  refine ww_iconst (v := 1) C dL_law_1853 (by decide) ?_
  refine ww_iadd C dL_law_1854 ?_
  obtain ⟨g_30, hf⟩ := gdE hf
  refine ww_sld C S0 (inB_vp g_30) dL_law_1855 ?_
  refine ww_aload_n C dL_law_1856 rfl 3 rfl ?_
  obtain ⟨p1857, hp1857, hf⟩ := bdE hf
  refine ww_callSL C T0 (As := [.ref (a0 0), .int (xs (Int32.toNatClampNeg (x4 + 1))), .ref q19]) (st := []) (gr := [wHouse E a2 v2, wHouse E a5 v5, wSight E a6 v6, wSight E a7 v7, wBest E a8 (rf2 (a9 0) (a10 0)) v8, wHouse E a9 v9, wSight E a10 v10, wIntr E a11 v11, wToks E a12 v12, wHRead E a13 (rf1 (a12 0)), wQRead E a14 (rf3 (a12 0) q15 q16) v14, wArr E q15 12 v15, wArr E q16 12 v16, wModel E a17 (rf2 (a17 1) q18) v17, wNm E q18]) (c_L_closeDoor (E := E) (a0 := a0) (h0_1 := a2 0) (h0_3 := a6 0) (h0_4 := a7 0) (h0_5 := a8 0) (h0_6 := a11 0) (h0_7 := a12 0) (h0_8 := a13 0) (h0_9 := a14 0) (a1 := a1) (a2 := a3) (h2_1 := a5 0) (q3 := q4) (ah3 := ah4) (q4 := q19) hp1857) gL_law_L_closeDoor rfl ysk_L_closeDoor ⟨by decide, by decide⟩ ⟨by show c + 1 ≤ 601024; omega, by show s + 6 ≤ 7293034; omega⟩ [0, 1, 3, 4, 19] [2, 5, 6, 7, 8, 9, 10, 11, 12, 13, 14, 15, 16, 17, 18] 20 rfl (by decide) rfl rfl (Nat.le_of_ble_eq_true rfl) dL_law_1857 ?_
  rintro _ _ ⟨rfl, rfl⟩
  refine ww_perm (gs' := [wGW E a0 (rf10 (a1 0) (a2 0) (a3 0) (a6 0) (a7 0) (a8 0) (a11 0) (a12 0) (a13 0) (a14 0)) v0, wHouse E a1 p1857.2.1, wHouse E a2 v2, wHist E a3 (rf2 q4 (a5 0)) p1857.2.2.1, wHs E q4 ah4 p1857.2.2.2.1, wHouse E a5 v5, wSight E a6 v6, wSight E a7 v7, wBest E a8 (rf2 (a9 0) (a10 0)) v8, wHouse E a9 v9, wSight E a10 v10, wIntr E a11 v11, wToks E a12 v12, wHRead E a13 (rf1 (a12 0)), wQRead E a14 (rf3 (a12 0) q15 q16) v14, wArr E q15 12 v15, wArr E q16 12 v16, wModel E a17 (rf2 (a17 1) q18) v17, wNm E q18, wLon E q19 p1857.2.2.2.2]) [0, 1, 5, 2, 3, 6, 7, 8, 9, 10, 11, 12, 13, 14, 15, 16, 17, 18, 19, 4] 20 rfl (by decide) rfl ?_
  refine ww_istore (lv' := [(5, .int p1857.1), (0, .ref bS), (1, .ref (a0 0)), (2, .ref (a17 0)), (3, .ref q19), (4, .int x4)]) C dL_law_1860 (by decide) rfl ?_
  refine ww_aload_n C dL_law_1862 rfl 3 rfl ?_
  refine ww_aload_n C dL_law_1863 rfl 1 rfl ?_
  refine ww_iload C dL_law_1864 5 rfl ?_
  refine ww_iconst (v := 1) C dL_law_1866 (by decide) ?_
  refine ww_iadd C dL_law_1867 ?_
  refine ww_sld C S0 (inB_vp g_30) dL_law_1868 ?_
  obtain ⟨p1869, hp1869, hf⟩ := bdE hf
  refine ww_callV C (As := [.int (xs (Int32.toNatClampNeg (x4 + 1)))]) (st := []) (gr := [wGW E a0 (rf10 (a1 0) (a2 0) (a3 0) (a6 0) (a7 0) (a8 0) (a11 0) (a12 0) (a13 0) (a14 0)) v0, wHouse E a1 p1857.2.1, wHouse E a2 v2, wHist E a3 (rf2 q4 (a5 0)) p1857.2.2.1, wHs E q4 ah4 p1857.2.2.2.1, wHouse E a5 v5, wSight E a6 v6, wSight E a7 v7, wBest E a8 (rf2 (a9 0) (a10 0)) v8, wHouse E a9 v9, wSight E a10 v10, wIntr E a11 v11, wToks E a12 v12, wHRead E a13 (rf1 (a12 0)), wQRead E a14 (rf3 (a12 0) q15 q16) v14, wArr E q15 12 v15, wArr E q16 12 v16, wNm E q18, wLon E q19 p1857.2.2.2.2]) (c_X9_closeDoor (E := E) (a0 := a17) (h0_1 := q18) hp1869) gL_law_X9_closeDoor rfl yk_X9_closeDoor ⟨by decide, by decide⟩ ⟨by show c + 1 + 0 ≤ 601024; omega, by show s + 6 + 0 ≤ 7293034; omega⟩ clOK9 0 0 rfl rfl [17] [0, 1, 2, 3, 4, 5, 6, 7, 8, 9, 10, 11, 12, 13, 14, 15, 16, 18, 19] 20 rfl (by decide) rfl rfl (Nat.le_of_ble_eq_true rfl) dL_law_1869 ?_
  rintro _ _ ⟨rfl, rfl⟩
  refine ww_perm (gs' := [wGW E a0 (rf10 (a1 0) (a2 0) (a3 0) (a6 0) (a7 0) (a8 0) (a11 0) (a12 0) (a13 0) (a14 0)) v0, wHouse E a1 p1857.2.1, wHouse E a2 v2, wHist E a3 (rf2 q4 (a5 0)) p1857.2.2.1, wHs E q4 ah4 p1857.2.2.2.1, wHouse E a5 v5, wSight E a6 v6, wSight E a7 v7, wBest E a8 (rf2 (a9 0) (a10 0)) v8, wHouse E a9 v9, wSight E a10 v10, wIntr E a11 v11, wToks E a12 v12, wHRead E a13 (rf1 (a12 0)), wQRead E a14 (rf3 (a12 0) q15 q16) v14, wArr E q15 12 v15, wArr E q16 12 v16, wModel E a17 (rf2 (a17 1) q18) p1869.2, wNm E q18, wLon E q19 p1857.2.2.2.2]) [1, 2, 3, 4, 5, 6, 7, 8, 9, 10, 11, 12, 13, 14, 15, 16, 17, 0, 18, 19] 20 rfl (by decide) rfl ?_
  refine ww_istore (lv' := [(6, .int p1869.1), (5, .int p1857.1), (0, .ref bS), (1, .ref (a0 0)), (2, .ref (a17 0)), (3, .ref q19), (4, .int x4)]) C dL_law_1872 (by decide) rfl ?_
  refine ww_aload_n C dL_law_1874 rfl 4 rfl ?_
  obtain ⟨p1875, hp1875, hf⟩ := bdE hf
  refine ww_callV C (As := []) (st := []) (gr := [wGW E a0 (rf10 (a1 0) (a2 0) (a3 0) (a6 0) (a7 0) (a8 0) (a11 0) (a12 0) (a13 0) (a14 0)) v0, wHouse E a1 p1857.2.1, wHouse E a2 v2, wHist E a3 (rf2 q4 (a5 0)) p1857.2.2.1, wHs E q4 ah4 p1857.2.2.2.1, wHouse E a5 v5, wSight E a6 v6, wSight E a7 v7, wBest E a8 (rf2 (a9 0) (a10 0)) v8, wHouse E a9 v9, wSight E a10 v10, wIntr E a11 v11, wToks E a12 v12, wHRead E a13 (rf1 (a12 0)), wQRead E a14 (rf3 (a12 0) q15 q16) v14, wArr E q15 12 v15, wArr E q16 12 v16, wNm E q18, wLon E q19 p1857.2.2.2.2]) (c_X9_thrown (E := E) (a0 := a17) (h0_0 := a17 1) (h0_1 := q18) hp1875) gL_law_X9_thrown rfl yk_X9_thrown ⟨by decide, by decide⟩ ⟨by show c + 1 + 0 + 0 ≤ 601024; omega, by show s + 6 + 0 + 0 ≤ 7293034; omega⟩ clOK9 0 0 rfl rfl [17] [0, 1, 2, 3, 4, 5, 6, 7, 8, 9, 10, 11, 12, 13, 14, 15, 16, 18, 19] 20 rfl (by decide) rfl rfl (Nat.le_of_ble_eq_true rfl) dL_law_1875 ?_
  rintro _ _ ⟨rfl, rfl⟩
  refine ww_perm (gs' := [wGW E a0 (rf10 (a1 0) (a2 0) (a3 0) (a6 0) (a7 0) (a8 0) (a11 0) (a12 0) (a13 0) (a14 0)) v0, wHouse E a1 p1857.2.1, wHouse E a2 v2, wHist E a3 (rf2 q4 (a5 0)) p1857.2.2.1, wHs E q4 ah4 p1857.2.2.2.1, wHouse E a5 v5, wSight E a6 v6, wSight E a7 v7, wBest E a8 (rf2 (a9 0) (a10 0)) v8, wHouse E a9 v9, wSight E a10 v10, wIntr E a11 v11, wToks E a12 v12, wHRead E a13 (rf1 (a12 0)), wQRead E a14 (rf3 (a12 0) q15 q16) v14, wArr E q15 12 v15, wArr E q16 12 v16, wModel E a17 (rf2 (a17 1) q18) p1869.2, wNm E q18, wLon E q19 p1857.2.2.2.2]) [1, 2, 3, 4, 5, 6, 7, 8, 9, 10, 11, 12, 13, 14, 15, 16, 17, 0, 18, 19] 20 rfl (by decide) rfl ?_
  refine ww_iload C dL_law_1878 1 rfl ?_
  refine ww_icmp_eq (tgt := 1885) C dL_law_1880 (by decide) (fun c_31 => ?_) (fun c_31 => ?_)
  · replace hf := ifT c_31 hf
    refine ww_iload C dL_law_1885 1 rfl ?_
    refine ww_if_ne (tgt := 1902) C dL_law_1887 (by decide) (fun c_32 => ?_) (fun c_32 => ?_)
    · replace hf := ifF c_32 hf
      refine ww_goto (tgt := 2229) C dL_law_1902 (by decide) ?_
      obtain ⟨x4_2229, e_x4_2229⟩ : ∃ y : Int32, y = x4 + 6 := ⟨_, rfl⟩
      replace hf := ltE e_x4_2229 hf
      refine ww_iinc (v := x4_2229) (lv' := [(4, .int x4_2229), (6, .int p1869.1), (5, .int p1857.1), (0, .ref bS), (1, .ref (a0 0)), (2, .ref (a17 0)), (3, .ref q19)]) C dL_law_2229 6 rfl (by rw [e_x4_2229]; rfl) (by decide) rfl ?_
      refine ww_goto (tgt := 23) C dL_law_2232 (by decide) ?_
      refine ww_sub C (lv' := [(0, .ref bS), (1, .ref (a0 0)), (2, .ref (a17 0)), (3, .ref q19), (4, .int x4_2229)]) [3, 4, 5, 6, 0] rfl ?_
      refine ww_widen (k := c + 3) (n := s + 18) (by show c + 1 + 0 + 0 ≤ c + 3; omega) (by show s + 6 + 0 + 0 ≤ s + 18; omega) ?_
      exact hk23 _ _ _ _ _ _ _ _ _ _ _ _ _ _ _ _ _ _ _ hf
    · replace hf := ifT c_32 hf
      refine ww_aload_n C dL_law_1890 rfl 5 rfl ?_
      refine ww_iconst (v := 0) C dL_law_1891 (by decide) ?_
      obtain ⟨g_33, hf⟩ := gdE hf
      refine ww_lald C (f := p1857.2.2.2.2) (w := wLon E q19 p1857.2.2.2.2) 19 0 rfl q_Lon (inB_vp g_33) dL_law_1892 ?_
      refine ww_iload C dL_law_1893 0 rfl ?_
      refine ww_i2l C dL_law_1895 ?_
      refine ww_lcmp C dL_law_1896 ?_
      refine ww_if_eq (tgt := 1902) C dL_law_1897 (by decide) (fun c_34 => ?_) (fun c_34 => ?_)
      · replace hf := ifT c_34 hf
        refine ww_goto (tgt := 2229) C dL_law_1902 (by decide) ?_
        obtain ⟨x4_2229, e_x4_2229⟩ : ∃ y : Int32, y = x4 + 6 := ⟨_, rfl⟩
        replace hf := ltE e_x4_2229 hf
        refine ww_iinc (v := x4_2229) (lv' := [(4, .int x4_2229), (6, .int p1869.1), (5, .int p1857.1), (0, .ref bS), (1, .ref (a0 0)), (2, .ref (a17 0)), (3, .ref q19)]) C dL_law_2229 6 rfl (by rw [e_x4_2229]; rfl) (by decide) rfl ?_
        refine ww_goto (tgt := 23) C dL_law_2232 (by decide) ?_
        refine ww_sub C (lv' := [(0, .ref bS), (1, .ref (a0 0)), (2, .ref (a17 0)), (3, .ref q19), (4, .int x4_2229)]) [3, 4, 5, 6, 0] rfl ?_
        refine ww_widen (k := c + 3) (n := s + 18) (by show c + 1 + 0 + 0 ≤ c + 3; omega) (by show s + 6 + 0 + 0 ≤ s + 18; omega) ?_
        exact hk23 _ _ _ _ _ _ _ _ _ _ _ _ _ _ _ _ _ _ _ hf
      · replace hf := ifF c_34 hf
        refine ww_iconst (v := 0) C dL_law_1900 (by decide) ?_
        cases hf
  · replace hf := ifF c_31 hf
    refine ww_iconst (v := 0) C dL_law_1883 (by decide) ?_
    cases hf

