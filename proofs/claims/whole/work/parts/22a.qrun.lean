section QRUN
variable {v : HouseV}
theorem run_many (hv : HOK v) {S cc : Nat} {C : Nat → Int32} (hcc : cc ≤ 200) (hP : PUSH (PVM v) (hR v) C 0 cc (bv S)) (x1 : Int32) : ∀ (m k n : Nat) (N : ModelV), hR v = k + m → m < n → PVM v N → Model_codes N = C → Model_codeCount N = I (cc : Int) → ∃ N', Mod_query_128 x1 0 n (I ((cnt S.testBit k : Nat) : Int)) (I (k : Int)) N = some (I ((cnt S.testBit (hR v) : Nat) : Int), N') ∧ kp N' = kp N := by
  have hn := hv.1
  have hR12 : hR v ≤ 12 := hn.2.2.1
  intro m
  induction m with
  | zero =>
    intro k n N hk hm hp hC hc
    obtain ⟨n, rfl⟩ : ∃ q, n = q + 1 := ⟨n - 1, by omega⟩
    rw [Mod_query_128, rooms_m hp.1 hn, bind_s, if_pos (I_le_t (by omega) (by omega) (by omega)), if_pos rfl, show hR v = k by omega]
    exact ⟨N, rfl, rfl⟩
  | succ m ih =>
    intro k n N hk hm hp hC hc
    obtain ⟨n, rfl⟩ : ∃ q, n = q + 1 := ⟨n - 1, by omega⟩
    obtain ⟨N', h1, h2, h3⟩ := holds_m hv hp hc hcc (by rw [hC]; exact hP) (r := k) (by omega)
    rw [Mod_query_128, rooms_m hp.1 hn, bind_s, if_neg (I_le_f (by omega) (by omega) (by omega)), h1, bind_s]
    dsimp only
    have hck : cnt S.testBit (k + 1) = cnt S.testBit k + (bif S.testBit k then 1 else 0) := rfl
    cases hb : S.testBit k
    · rw [hb, bif_f] at hck
      rw [bif_f, nmL_e, I_succ]
      obtain ⟨N2, q1, q2⟩ := ih (k + 1) n N' (by omega) (by omega) h2 (h3.1.trans hC) (h3.2.1.trans hc)
      rw [hck, Nat.add_zero] at q1
      exact ⟨N2, q1, q2.trans h3.2.2⟩
    · rw [hb, bif_t] at hck
      rw [bif_t, if_pos rfl, nmL_e, nmL_e, I_succ, I_succ]
      obtain ⟨N2, q1, q2⟩ := ih (k + 1) n N' (by omega) (by omega) h2 (h3.1.trans hC) (h3.2.1.trans hc)
      rw [hck] at q1
      exact ⟨N2, q1, q2.trans h3.2.2⟩
theorem run_first (hv : HOK v) {S cc : Nat} {C : Nat → Int32} (hcc : cc ≤ 200) (hP : PUSH (PVM v) (hR v) C 0 cc (bv S)) (x1 : Int32) : ∀ (m k n : Nat) (N : ModelV), hR v = k + m → m < n → PVM v N → Model_codes N = C → Model_codeCount N = I (cc : Int) → (∀ i, i < k → S.testBit i = false) → ∃ N' a, Mod_query_128 x1 1 n 0 (I (k : Int)) N = some (I a, N') ∧ kp N' = kp N ∧ ansQ false S (hR v) a := by
  have hn := hv.1
  have hR12 : hR v ≤ 12 := hn.2.2.1
  intro m
  induction m with
  | zero =>
    intro k n N hk hm hp hC hc hi
    obtain ⟨n, rfl⟩ : ∃ q, n = q + 1 := ⟨n - 1, by omega⟩
    rw [Mod_query_128, rooms_m hp.1 hn, bind_s, if_pos (I_le_t (by omega) (by omega) (by omega)), if_neg (by decide)]
    exact ⟨N, -1, rfl, rfl, Or.inl ⟨rfl, fun r h => hi r (by omega)⟩⟩
  | succ m ih =>
    intro k n N hk hm hp hC hc hi
    obtain ⟨n, rfl⟩ : ∃ q, n = q + 1 := ⟨n - 1, by omega⟩
    obtain ⟨N', h1, h2, h3⟩ := holds_m hv hp hc hcc (by rw [hC]; exact hP) (r := k) (by omega)
    rw [Mod_query_128, rooms_m hp.1 hn, bind_s, if_neg (I_le_f (by omega) (by omega) (by omega)), h1, bind_s]
    dsimp only
    cases hb : S.testBit k
    · rw [bif_f, nmL_e, I_succ]
      obtain ⟨N2, a, q1, q2, q3⟩ := ih (k + 1) n N' (by omega) (by omega) h2 (h3.1.trans hC) (h3.2.1.trans hc) fun i h => by
        by_cases c : i = k
        · rw [c]; exact hb
        · exact hi i (by omega)
      exact ⟨N2, a, q1, q2.trans h3.2.2, q3⟩
    · rw [bif_t, if_neg (by decide)]
      exact ⟨N', k, rfl, h3.2.2, Or.inr ⟨k, by omega, rfl, hb, hi⟩⟩
theorem ans_uni {many : Bool} {S R : Nat} {a b : Int} (h1 : ansQ many S R a) (h2 : ansQ many S R b) : a = b := by
  unfold ansQ at h1 h2
  cases many
  · rw [if_neg (by decide)] at h1 h2
    rcases h1 with ⟨e1, g1⟩ | ⟨r1, r2, r3, r4, r5⟩
    · rcases h2 with ⟨e2, -⟩ | ⟨s1, s2, s3, s4, s5⟩
      · rw [e1, e2]
      · rw [g1 s1 s2] at s4; exact absurd s4 (by decide)
    · rcases h2 with ⟨-, g2⟩ | ⟨s1, s2, s3, s4, s5⟩
      · rw [g2 r1 r2] at r4; exact absurd r4 (by decide)
      · have h3 : ¬ r1 < s1 := fun h => by rw [s5 r1 h] at r4; exact absurd r4 (by decide)
        have h4 : ¬ s1 < r1 := fun h => by rw [r5 s1 h] at s4; exact absurd s4 (by decide)
        omega
  · rw [if_pos rfl] at h1 h2
    rw [h1, h2]
/-- the model's laid house -/
theorem laid_pvm {M : ModelV} (hr : RelM (Model_now M) v) (hn : WFn v) (hw : WFG v) : ∃ N, Mod_layNow M = some N ∧ PVM v N ∧ kp N = kp M ∧ Model_codes N = Model_codes M ∧ Model_codeCount N = Model_codeCount M := by
  obtain ⟨ph, c, f, l, s, g, b, e, h1, h2, h3⟩ := layNow_m hr hn hw
  refine ⟨_, e, ⟨?_, fun r hr' => ?_⟩, ?_, ?_, ?_⟩
  · rw [MLo_now, Mo_now_cycleNow, Mo_now_phases]; exact hr
  · have := h3 r hr'
    rw [show Model_gap (ML (Model_set_cycleNow (Model_set_phases M ph) c) f l s g b) = g by unfold ML; rw [Mo_gap_gapBegin, Mo_gap_gap], show Model_seenCount (ML (Model_set_cycleNow (Model_set_phases M ph) c) f l s g b) = s by unfold ML; rw [Mo_seenCount_gapBegin, Mo_seenCount_gap, Mo_seenCount_seenCount]]
    exact ⟨this.1, this.2.1⟩
  · rw [kp_ML, kp_cycleNow, kp_phases]
  · rw [MLo_codes, Mo_codes_cycleNow, Mo_codes_phases]
  · rw [MLo_codeCount, Mo_codeCount_cycleNow, Mo_codeCount_phases]
/-- the model's answer to a query that was read -/
theorem q99_ok (hv : HOK v) {N : ModelV} (hr : RelM (Model_now N) v) (he : Model_error N = 0) {S cc : Nat} (hc : Model_codeCount N = I (cc : Int)) (hcc : cc ≤ 200) (hP : PUSH (PVM v) (hR v) (Model_codes N) 0 cc (bv S)) (many : Bool) (x1 : Int32) : ∃ N' a, Mod_query_99 x1 (b2i (!many)) 1 N = some (I a, N') ∧ ansQ many S (hR v) a ∧ kpA N' = kpR N (-1) ∧ Model_thrown N' = Model_thrown N := by
  obtain ⟨hn, hd, hj, hl, hw, hs⟩ := id hv
  obtain ⟨N1, a1, a2, a3, a4, a5, a6, a7⟩ := finish_ok he
  have hnow : Model_now N1 = Model_now N := congrArg (fun q => q.1) a2
  obtain ⟨N2, b1, b2, b3, b4, b5⟩ := laid_pvm (M := N1) (v := v) (by rw [hnow]; exact hr) hn hw
  have hkA : kpA N2 = kpR N (-1) := (congrArg (fun q => q.2) b3).trans a2
  have hth : Model_thrown N2 = Model_thrown N := (congrArg (fun q => q.1) b3).trans a3
  unfold Mod_query_99
  rw [asB_1, check_t, bind_s, a1, bind_s]
  dsimp only
  rw [if_pos rfl, b1, bind_s]
  cases many
  · obtain ⟨N3, a, c1, c2, c3⟩ := run_first hv hcc hP x1 (hR v) 0 FU N2 (by omega) (by have := hn.2.2.1; unfold FU; omega) b2 (b4.trans a6) (b5.trans (a7.trans hc)) fun i h => absurd h (by omega)
    exact ⟨N3, a, c1, c3, (congrArg (fun q => q.2) c2).trans hkA, (congrArg (fun q => q.1) c2).trans hth⟩
  · obtain ⟨N3, c1, c2⟩ := run_many hv hcc hP x1 (hR v) 0 FU N2 (by omega) (by have := hn.2.2.1; unfold FU; omega) b2 (b4.trans a6) (b5.trans (a7.trans hc))
    refine ⟨N3, _, c1, ?_, (congrArg (fun q => q.2) c2).trans hkA, (congrArg (fun q => q.1) c2).trans hth⟩
    unfold ansQ
    rw [if_pos rfl]
theorem q99_er {K : KT} {T : TT} {t : ToksV} {N : ModelV} {c : Nat} (h : EE K T t N c) (x1 x2 : Int32) : ∃ N', Mod_query_99 x1 x2 1 N = some ((-1000000000) - I (c : Int), N') ∧ kpA N' = kpR N (Toks_from t) ∧ Model_thrown N' = Model_thrown N := by
  obtain ⟨N1, a1, a2, a3, a4⟩ := finish_er h
  unfold Mod_query_99
  rw [asB_1, check_t, bind_s, a1, bind_s]
  dsimp only
  rw [if_neg h.c0, a4]
  exact ⟨N1, rfl, a2, a3⟩
end QRUN
