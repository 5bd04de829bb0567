section WHOLE
theorem in_law_X8 : ∀ w ∈ u_ws RX8 TX8 14, w ∈ wsL_law := inlX8
theorem in_law_X9 : ∀ w ∈ u_ws RX9 TX9 35, w ∈ wsL_law := inlX9
theorem law_words : ∀ w ∈ [Cond.classLink RL 8 RX8, Cond.instantiable RX8 14, Cond.initialized RX8, Cond.classLink RL 96 RX9, Cond.instantiable RX9 35, Cond.initialized RX9, Cond.arrayClass .long, Cond.methodLink RL 95 yX8_init, Cond.instanceMethod yX8_init, Cond.methodLink RL 98 yX9_init, Cond.instanceMethod yX9_init], w ∈ wsL_law := by decide +kernel
set_option maxHeartbeats 8000000 in
set_option maxRecDepth 100000 in
/-- the law from its entry -/
theorem law_walk {E : Ex} {K : Kx} (C : Cx E K cL_law 9 (some .boolean) RL wsL_law rmL_law) (T0 : TL E K) (AO : AOK K) {b L : Nat} {xs : Nat → Int32} (S0 : SX b L xs K) (hL : L ≤ 3072) {Q : State → Prop} (HR : ∀ (c s : Nat) (lv : List (Nat × Value)) (gs : List va_W), c ≤ 601024 → s ≤ 7293034 → WW E K c s Q 2236 lv [.int 1] gs) : WW E K 0 0 Q 0 [(0, .ref b)] [] [] := by
  obtain ⟨w0, lw⟩ := List.forall_mem_cons.mp law_words
  obtain ⟨w1, lw⟩ := List.forall_mem_cons.mp lw
  obtain ⟨w2, lw⟩ := List.forall_mem_cons.mp lw
  obtain ⟨w3, lw⟩ := List.forall_mem_cons.mp lw
  obtain ⟨w4, lw⟩ := List.forall_mem_cons.mp lw
  obtain ⟨w5, lw⟩ := List.forall_mem_cons.mp lw
  obtain ⟨w6, lw⟩ := List.forall_mem_cons.mp lw
  obtain ⟨w7, lw⟩ := List.forall_mem_cons.mp lw
  obtain ⟨w8, lw⟩ := List.forall_mem_cons.mp lw
  obtain ⟨w9, lw⟩ := List.forall_mem_cons.mp lw
  obtain ⟨w10, lw⟩ := List.forall_mem_cons.mp lw
  obtain ⟨hv, r, i1, i2, i3⟩ := inv_0
  refine ww_new C [.null, .null, .null, .null, .null, .null, .null, .null, .null, .null, .null, .int 0, .int 0, .int 0] clOK8 in_law_X8 w0 w1 w2 hfs_X8 ⟨by decide, by decide⟩ dL_law_0 (fun q1 => ?_)
  refine ww_eq (gs' := [[(q1, .inr (8, [.null, .null, .null, .null, .null, .null, .null, .null, .null, .null, .null, .int 0, .int 0, .int 0]))]]) rfl ?_
  refine ww_dup C dL_law_3 rfl ?_
  refine ww_callIA C AO (As := []) (st := [.ref q1]) (gr := []) (c_X8_init (E := E) (b0 := q1) i1) gL_law_X8_init rfl w7 w8 w2 yi_X8_init ⟨by decide, by decide⟩ ⟨by decide, by decide⟩ [0] [] 1 rfl (by decide) rfl rfl (Nat.le_of_ble_eq_true rfl) dL_law_4 ?_
  rintro _ _ ⟨rfl, a0, a1, a2, a3, q4, ah4, a5, a6, a7, a8, a9, a10, a11, a12, a13, a14, q15, q16, rfl, rfl⟩
  refine ww_eq (gs' := [wGW E a0 (rf10 (a1 0) (a2 0) (a3 0) (a6 0) (a7 0) (a8 0) (a11 0) (a12 0) (a13 0) (a14 0)) GW0, wHouse E a1 hv, wHouse E a2 House0, wHist E a3 (rf2 q4 (a5 0)) Hist0, wHs E q4 ah4 (fun _ => House0), wHouse E a5 House0, wSight E a6 Sight0, wSight E a7 Sight0, wBest E a8 (rf2 (a9 0) (a10 0)) Best0, wHouse E a9 House0, wSight E a10 Sight0, wIntr E a11 Intr0, wToks E a12 Toks0, wHRead E a13 (rf1 (a12 0)), wQRead E a14 (rf3 (a12 0) q15 q16) QRead0, wArr E q15 12 (fun _ => 0), wArr E q16 12 (fun _ => 0)]) rfl ?_
  refine ww_astore_n (lv' := [(1, .ref (a0 0)), (0, .ref b)]) C dL_law_7 rfl (by decide) rfl ?_
  refine ww_new C [.null, .null, .null, .null, .int 0, .int 0, .int 0, .null, .null, .null, .null, .null, .null, .null, .null, .int 0, .null, .int 0, .int 0, .null, .int 0, .null, .int 0, .int 0, .int 0, .int 0, .int 0, .int 0, .int 0, .int 0, .int 0, .null, .null, .null, .int 0] clOK9 in_law_X9 w3 w4 w5 hfs_X9 ⟨by decide, by decide⟩ dL_law_8 (fun q2 => ?_)
  refine ww_eq (gs' := [wGW E a0 (rf10 (a1 0) (a2 0) (a3 0) (a6 0) (a7 0) (a8 0) (a11 0) (a12 0) (a13 0) (a14 0)) GW0, wHouse E a1 hv, wHouse E a2 House0, wHist E a3 (rf2 q4 (a5 0)) Hist0, wHs E q4 ah4 (fun _ => House0), wHouse E a5 House0, wSight E a6 Sight0, wSight E a7 Sight0, wBest E a8 (rf2 (a9 0) (a10 0)) Best0, wHouse E a9 House0, wSight E a10 Sight0, wIntr E a11 Intr0, wToks E a12 Toks0, wHRead E a13 (rf1 (a12 0)), wQRead E a14 (rf3 (a12 0) q15 q16) QRead0, wArr E q15 12 (fun _ => 0), wArr E q16 12 (fun _ => 0), [(q2, .inr (9, [.null, .null, .null, .null, .int 0, .int 0, .int 0, .null, .null, .null, .null, .null, .null, .null, .null, .int 0, .null, .int 0, .int 0, .null, .int 0, .null, .int 0, .int 0, .int 0, .int 0, .int 0, .int 0, .int 0, .int 0, .int 0, .null, .null, .null, .int 0]))]]) rfl ?_
  refine ww_dup C dL_law_11 rfl ?_
  refine ww_callIA C AO (As := []) (st := [.ref q2]) (gr := [wGW E a0 (rf10 (a1 0) (a2 0) (a3 0) (a6 0) (a7 0) (a8 0) (a11 0) (a12 0) (a13 0) (a14 0)) GW0, wHouse E a1 hv, wHouse E a2 House0, wHist E a3 (rf2 q4 (a5 0)) Hist0, wHs E q4 ah4 (fun _ => House0), wHouse E a5 House0, wSight E a6 Sight0, wSight E a7 Sight0, wBest E a8 (rf2 (a9 0) (a10 0)) Best0, wHouse E a9 House0, wSight E a10 Sight0, wIntr E a11 Intr0, wToks E a12 Toks0, wHRead E a13 (rf1 (a12 0)), wQRead E a14 (rf3 (a12 0) q15 q16) QRead0, wArr E q15 12 (fun _ => 0), wArr E q16 12 (fun _ => 0)]) (c_X9_init (E := E) (b0 := q2) i2) gL_law_X9_init rfl w9 w10 w5 yi_X9_init ⟨by decide, by decide⟩ ⟨by decide, by decide⟩ [17] [0, 1, 2, 3, 4, 5, 6, 7, 8, 9, 10, 11, 12, 13, 14, 15, 16] 18 rfl (by decide) rfl rfl (Nat.le_of_ble_eq_true rfl) dL_law_12 ?_
  rintro _ _ ⟨rfl, a17, q18, rfl, rfl⟩
  refine ww_perm (gs' := [wGW E a0 (rf10 (a1 0) (a2 0) (a3 0) (a6 0) (a7 0) (a8 0) (a11 0) (a12 0) (a13 0) (a14 0)) GW0, wHouse E a1 hv, wHouse E a2 House0, wHist E a3 (rf2 q4 (a5 0)) Hist0, wHs E q4 ah4 (fun _ => House0), wHouse E a5 House0, wSight E a6 Sight0, wSight E a7 Sight0, wBest E a8 (rf2 (a9 0) (a10 0)) Best0, wHouse E a9 House0, wSight E a10 Sight0, wIntr E a11 Intr0, wToks E a12 Toks0, wHRead E a13 (rf1 (a12 0)), wQRead E a14 (rf3 (a12 0) q15 q16) QRead0, wArr E q15 12 (fun _ => 0), wArr E q16 12 (fun _ => 0), wModel E a17 (rf2 (a17 1) q18) (Model0 r), wNm E q18]) [2, 3, 4, 5, 6, 7, 8, 9, 10, 11, 12, 13, 14, 15, 16, 17, 18, 0, 1] 19 rfl (by decide) rfl ?_
  refine ww_astore_n (lv' := [(2, .ref (a17 0)), (1, .ref (a0 0)), (0, .ref b)]) C dL_law_15 rfl (by decide) rfl ?_
  refine ww_iconst (v := 1) C dL_law_16 (by decide) ?_
  refine ww_newl C w6 (n := 1) 1 (by decide) rfl (by decide) ⟨by decide, by decide⟩ dL_law_17 (fun q19 => ?_)
  refine ww_eq (gs' := [wGW E a0 (rf10 (a1 0) (a2 0) (a3 0) (a6 0) (a7 0) (a8 0) (a11 0) (a12 0) (a13 0) (a14 0)) GW0, wHouse E a1 hv, wHouse E a2 House0, wHist E a3 (rf2 q4 (a5 0)) Hist0, wHs E q4 ah4 (fun _ => House0), wHouse E a5 House0, wSight E a6 Sight0, wSight E a7 Sight0, wBest E a8 (rf2 (a9 0) (a10 0)) Best0, wHouse E a9 House0, wSight E a10 Sight0, wIntr E a11 Intr0, wToks E a12 Toks0, wHRead E a13 (rf1 (a12 0)), wQRead E a14 (rf3 (a12 0) q15 q16) QRead0, wArr E q15 12 (fun _ => 0), wArr E q16 12 (fun _ => 0), wModel E a17 (rf2 (a17 1) q18) (Model0 r), wNm E q18, wLon E q19 (fun _ => 0)]) rfl ?_
  refine ww_astore_n (lv' := [(3, .ref q19), (2, .ref (a17 0)), (1, .ref (a0 0)), (0, .ref b)]) C dL_law_19 rfl (by decide) rfl ?_
  refine ww_iconst (v := 0) C dL_law_20 (by decide) ?_
  refine ww_istore (lv' := [(4, .int 0), (3, .ref q19), (2, .ref (a17 0)), (1, .ref (a0 0)), (0, .ref b)]) C dL_law_21 (by decide) rfl ?_
  refine ww_sub C (lv' := [(0, .ref b), (1, .ref (a0 0)), (2, .ref (a17 0)), (3, .ref q19), (4, .int 0)]) [4, 3, 2, 1, 0] rfl ?_
  refine ww_widen (k := 10000) (n := 100000) (by decide) (by decide) ?_
  exact w_L_law_23 C T0 S0 HR 600 10000 100000 0 GW0 hv House0 Hist0 (fun _ => House0) House0 Sight0 Sight0 Best0 House0 Sight0 Intr0 Toks0 QRead0 (fun _ => 0) (fun _ => 0) (Model0 r) (fun _ => 0) (by decide) (by decide) (law_all hL xs 599 0 0 600 GW0 hv House0 Hist0 (fun _ => House0) House0 Sight0 Sight0 Best0 House0 Sight0 Intr0 Toks0 QRead0 (fun _ => 0) (fun _ => 0) (Model0 r) (fun _ => 0) (by omega) (by omega) (by omega) (by omega) i3)
end WHOLE
