section BESTM
theorem val_succ (r φ : Nat → Nat) (k : Nat) : val r φ (k + 1) = val r φ k * r k + φ k := rfl
theorem prd_succ (r : Nat → Nat) (k : Nat) : prd r (k + 1) = prd r k * r k := rfl
/-- the best ones so far are β, in the model -/
def BM (m : ModelV) (v : HouseV) (β : Nat → Nat) : Prop := Model_leastWorst m = I (EV v β).1 ∧ Model_leastCrossings m = I (EV v β).2 ∧ ∀ g, g < hG v → Model_bestPhases m g = I (β g : Int)
section
variable {v : HouseV}
theorem MV_of {X : ModelV} (hr : RelM (Model_now X) v) (hn : WFn v) (hw : WFG v) {φ : Nat → Nat} (hb : box (hP v) φ (hG v)) (hf : ∀ g, g < hG v → Model_phases X g = I (φ g : Int)) : MV X v (fun g => I (φ g : Int)) := by
  refine ⟨hr, hn, hw, HS_wf hw hb, fun g hg => ?_⟩
  have h1 := hw.per g hg
  have h2 := hb g hg
  have e : hF (House_set_phases v fun g => I (φ g : Int)) g = φ g := HS_F (by omega)
  rw [e]
  exact ⟨hf g hg, h2⟩
theorem judge67_loop {X : ModelV} (hr : RelM (Model_now X) v) (hn : WFn v) {φ : Nat → Nat} (hf : ∀ g, g < hG v → Model_phases X g = I (φ g : Int)) : ∀ (q k n : Nat) (b : Nat → Int32), hG v = k + q → q < n → (∀ g, g < k → b g = I (φ g : Int)) → ∃ b', Mod_judgePhases_67 n (I (k : Int)) (Model_set_bestPhases X b) = some (Model_set_bestPhases X b') ∧ ∀ g, g < hG v → b' g = I (φ g : Int) := by
  have hG4 : hG v ≤ 4 := hn.2.2.2.2.2.2.1
  intro q
  induction q with
  | zero =>
    intro k n b hk hm h1
    obtain ⟨n, rfl⟩ : ∃ q, n = q + 1 := ⟨n - 1, by omega⟩
    rw [Mod_judgePhases_67, guards_m (mv := Model_set_bestPhases X b) (by rw [Mo_now_bestPhases]; exact hr) hn, bind_s, if_pos (I_le_t (by omega) (by omega) (by omega))]
    exact ⟨b, rfl, fun g hg => h1 g (by omega)⟩
  | succ q ih =>
    intro k n b hk hm h1
    obtain ⟨n, rfl⟩ : ∃ q, n = q + 1 := ⟨n - 1, by omega⟩
    have eph : Model_phases (Model_set_bestPhases X b) k = I (φ k : Int) := by rw [Mo_phases_bestPhases]; exact hf k (by omega)
    rw [Mod_judgePhases_67, guards_m (mv := Model_set_bestPhases X b) (by rw [Mo_now_bestPhases]; exact hr) hn, bind_s, if_neg (I_le_f (by omega) (by omega) (by omega)), gd_I (by omega) (by omega) (by omega), nmL_e, nmL_e, I_clamp k (by omega), I_succ, eph]
    refine ih (k + 1) n (upd b k (I (φ k : Int))) (by omega) (by omega) (fun g hg => ?_)
    by_cases hgk : g = k
    · subst hgk; exact upd_i
    · exact (upd_n hgk).trans (h1 g (by omega))
/-- one try of the model: its sightings, the worst gap, the crossings -/
theorem lay_all {X : ModelV} {p : Nat → Int32} (H : MV X v p) : ∃ Y, Mod_layCycle X = some Y ∧ kp Y = kp X ∧ Model_now Y = Model_now X ∧ Model_phases Y = Model_phases X ∧ Model_leastWorst Y = Model_leastWorst X ∧ Model_leastCrossings Y = Model_leastCrossings X ∧ Model_bestPhases Y = Model_bestPhases X ∧ Mod_worstLaid Y = some (I (worst (House_set_phases v p))) ∧ Mod_crossingsLaid Y = some (I (cross (House_set_phases v p))) := by
  obtain ⟨hr, hn, hw, hw', hp⟩ := id H
  obtain ⟨c, f, l, s, g, b, e, hc, hg⟩ := layCycle_m hr hn hw hw' hp
  have hwl := worstLaid_m (M := Model_set_cycleNow X c) (w := House_set_phases v p) (f := f) (l := l) (by rw [Mo_now_cycleNow]; exact hr) hn (cyc_pos hw') (cyc_le hw') hg (sp_R v p)
  have hnow : Model_now (ML (Model_set_cycleNow X c) f l s g b) = Model_now X := by rw [MLo_now, Mo_now_cycleNow]
  have hphs : Model_phases (ML (Model_set_cycleNow X c) f l s g b) = Model_phases X := by rw [MLo_phases, Mo_phases_cycleNow]
  have hcyc : Model_cycleNow (ML (Model_set_cycleNow X c) f l s g b) = c := by rw [MLo_cycleNow, Mo_cycleNow_cycleNow]
  have hcr := crossings_m (M := ML (Model_set_cycleNow X c) f l s g b) (v := v) (p := p) ⟨by rw [hnow]; exact hr, hn, hw, hw', fun q hq => by rw [hphs]; exact hp q hq⟩ (hcyc.trans hc)
  exact ⟨_, e, by rw [kp_ML, kp_cycleNow], hnow, hphs, by rw [MLo_leastWorst, Mo_leastWorst_cycleNow], by rw [MLo_leastCrossings, Mo_leastCrossings_cycleNow], by rw [MLo_bestPhases, Mo_bestPhases_cycleNow], hwl, hcr⟩
theorem judge67_self (Z : ModelV) : Model_set_bestPhases Z (Model_bestPhases Z) = Z := rfl
theorem judge67_s {Z : ModelV} (hr : RelM (Model_now Z) v) (hn : WFn v) {φ : Nat → Nat} (hf : ∀ g, g < hG v → Model_phases Z g = I (φ g : Int)) : ∃ b', Mod_judgePhases_67 FU 0 Z = some (Model_set_bestPhases Z b') ∧ ∀ g, g < hG v → b' g = I (φ g : Int) := by
  have hG4 : hG v ≤ 4 := hn.2.2.2.2.2.2.1
  obtain ⟨b', e', h⟩ := judge67_loop (X := Z) hr hn hf (hG v) 0 FU (Model_bestPhases Z) (by omega) (by unfold FU; omega) (fun g hg => absurd hg (by omega))
  rw [judge67_self, ← I_zero] at e'
  exact ⟨b', e', h⟩
theorem judge67_f {Y Z : ModelV} {φ : Nat → Nat} (hn : WFn v) (hr : RelM (Model_now Z) v) (hf : ∀ g, g < hG v → Model_phases Z g = I (φ g : Int)) (z2 : Model_phases Z = Model_phases Y) (z3 : kp Z = kp Y) {wv cv : Int32} (z4 : Model_leastWorst Z = wv) (z5 : Model_leastCrossings Z = cv) : ∃ X', Mod_judgePhases_67 FU 0 Z = some X' ∧ kp X' = kp Y ∧ Model_phases X' = Model_phases Y ∧ Model_leastWorst X' = wv ∧ Model_leastCrossings X' = cv ∧ ∀ g, g < hG v → Model_bestPhases X' g = I (φ g : Int) := by
  obtain ⟨b', e', hb'⟩ := judge67_s hr hn hf
  exact ⟨_, e', by rw [kp_bestPhases, z3], by rw [Mo_phases_bestPhases, z2], by rw [Mo_leastWorst_bestPhases, z4], by rw [Mo_leastCrossings_bestPhases, z5], fun g hg => by rw [Mo_bestPhases_bestPhases]; exact hb' g hg⟩
theorem judge_fin {Y : ModelV} (hrr : RelM (Model_now Y) v) (hn : WFn v) {φ : Nat → Nat} (hff : ∀ g, g < hG v → Model_phases Y g = I (φ g : Int)) (wv cv : Int32) : ∃ X', Mod_judgePhases_67 FU 0 (Model_set_leastCrossings (Model_set_leastWorst Y wv) cv) = some X' ∧ kp X' = kp Y ∧ Model_phases X' = Model_phases Y ∧ Model_leastWorst X' = wv ∧ Model_leastCrossings X' = cv ∧ ∀ g, g < hG v → Model_bestPhases X' g = I (φ g : Int) :=
  judge67_f (Y := Y) (Z := Model_set_leastCrossings (Model_set_leastWorst Y wv) cv) hn (by rw [Mo_now_leastCrossings, Mo_now_leastWorst]; exact hrr) (fun q hq => by rw [Mo_phases_leastCrossings, Mo_phases_leastWorst]; exact hff q hq) (by rw [Mo_phases_leastCrossings, Mo_phases_leastWorst]) (by rw [kp_leastCrossings, kp_leastWorst]) (by rw [Mo_leastWorst_leastCrossings, Mo_leastWorst_leastWorst]) (by rw [Mo_leastCrossings_leastCrossings])
/-- the judgement, with numbers alone -/
theorem judge_n {X : ModelV} {p : Nat → Int32} (H : MV X v p) {φ : Nat → Nat} (hf : ∀ g, g < hG v → Model_phases X g = I (φ g : Int)) {W C : Int} (hW : worst (House_set_phases v p) = W) (hC : cross (House_set_phases v p) = C) (w1 : 0 ≤ W) (w2 : W ≤ 2520) (c1 : 0 ≤ C) (c2 : C ≤ 15120) : ∃ X1 X2, kp X1 = kp X ∧ kp X2 = kp X ∧ Model_phases X1 = Model_phases X ∧ Model_phases X2 = Model_phases X ∧ (Model_leastWorst X1 = I W ∧ Model_leastCrossings X1 = I C ∧ ∀ g, g < hG v → Model_bestPhases X1 g = I (φ g : Int)) ∧ (Model_leastWorst X2 = Model_leastWorst X ∧ Model_leastCrossings X2 = Model_leastCrossings X ∧ Model_bestPhases X2 = Model_bestPhases X) ∧ (Model_leastWorst X = -1 → Mod_judgePhases X = some X1) ∧ ∀ W0 C0 : Int, 0 ≤ W0 → W0 ≤ 2520 → 0 ≤ C0 → C0 ≤ 15120 → Model_leastWorst X = I W0 → Model_leastCrossings X = I C0 → (eLt (W, C) (W0, C0) → Mod_judgePhases X = some X1) ∧ (¬ eLt (W, C) (W0, C0) → Mod_judgePhases X = some X2) := by
  obtain ⟨Y, e, k1, k2, k3, k4, k5, k6, k7, k8⟩ := lay_all H
  rw [hW] at k7
  rw [hC] at k8
  obtain ⟨X1, e1, a1, a2, a3, a4, a5⟩ := judge_fin (Y := Y) (by rw [k2]; exact H.1) H.2.1 (fun q hq => by rw [k3]; exact hf q hq) (I W) (I C)
  refine ⟨X1, Y, a1.trans k1, k1, a2.trans k3, k3, ⟨a3, a4, a5⟩, ⟨k4, k5, k6⟩, fun h => ?_, fun W0 C0 d1 d2 d3 d4 h1 h2 => ?_⟩
  · unfold Mod_judgePhases
    rw [e, bind_s, k7, bind_s, k4, h, if_pos rfl]
    unfold Mod_judgePhases_26
    rw [k8, bind_s, k4, h, if_pos rfl, nmL_e, nmL_e]
    exact e1
  · unfold Mod_judgePhases eLt
    dsimp only
    rw [e, bind_s, k7, bind_s, k4, h1, Im1, if_neg (I_ne (by omega) (by omega) (by omega) (by omega) (by omega))]
    by_cases q1 : W ≤ W0
    · rw [if_pos (I_le_t q1 (by omega) (by omega))]
      unfold Mod_judgePhases_26
      rw [k8, bind_s, k4, h1, Im1, if_neg (I_ne (by omega) (by omega) (by omega) (by omega) (by omega))]
      by_cases q2 : W < W0
      · rw [if_pos (I_lt_t q2 (by omega) (by omega)), nmL_e, nmL_e]
        exact ⟨fun _ => e1, fun hc => absurd (Or.inl q2) hc⟩
      · rw [if_neg (I_lt_f (by omega) (by omega) (by omega)), k5, h2]
        by_cases q3 : C0 ≤ C
        · rw [if_pos (I_le_t q3 (by omega) (by omega))]
          exact ⟨fun hc => absurd hc (by omega), fun _ => rfl⟩
        · rw [if_neg (I_le_f (by omega) (by omega) (by omega)), nmL_e, nmL_e]
          exact ⟨fun _ => e1, fun hc => absurd (show W < W0 ∨ W = W0 ∧ C < C0 by omega) hc⟩
    · rw [if_neg (I_le_f (by omega) (by omega) (by omega))]
      exact ⟨fun hc => absurd hc (by omega), fun _ => rfl⟩
theorem judge_m {M X : ModelV} (hk : kp X = kp M) (hr : RelM (Model_now X) v) (hn : WFn v) (hw : WFG v) {φ : Nat → Nat} (hb : box (hP v) φ (hG v)) (hf : ∀ g, g < hG v → Model_phases X g = I (φ g : Int)) (first : Bool) {β : Nat → Nat} (h1 : first = true → Model_leastWorst X = -1) (h2 : first = false → BM X v β ∧ box (hP v) β (hG v)) : ∃ X', Mod_judgePhases X = some X' ∧ kp X' = kp M ∧ (∀ g, g < hG v → Model_phases X' g = I (φ g : Int)) ∧ ((first = true ∨ eLt (EV v φ) (EV v β)) → BM X' v φ) ∧ (first = false → ¬ eLt (EV v φ) (EV v β) → BM X' v β) := by
  have hG4 : hG v ≤ 4 := hn.2.2.2.2.2.2.1
  obtain ⟨b1, b2, b3, b4⟩ := EV_b hw hG4 hb
  obtain ⟨X1, X2, k1, k2, k3, k4, k5, k6, k7, k8⟩ := judge_n (MV_of hr hn hw hb hf) hf (W := (EV v φ).1) (C := (EV v φ).2) rfl rfl b1 b2 b3 b4
  have B1 : BM X1 v φ := k5
  have P1 : ∀ g, g < hG v → Model_phases X1 g = I (φ g : Int) := fun g hg => by rw [k3]; exact hf g hg
  have P2 : ∀ g, g < hG v → Model_phases X2 g = I (φ g : Int) := fun g hg => by rw [k4]; exact hf g hg
  cases first
  · obtain ⟨⟨p1, p2, p3⟩, p4⟩ := h2 rfl
    obtain ⟨d1, d2, d3, d4⟩ := EV_b hw hG4 p4
    have e := k8 (EV v β).1 (EV v β).2 d1 d2 d3 d4 p1 p2
    by_cases c : eLt (EV v φ) (EV v β)
    · exact ⟨X1, e.1 c, k1.trans hk, P1, fun _ => B1, fun _ hc => absurd c hc⟩
    · refine ⟨X2, e.2 c, k2.trans hk, P2, fun hc => ?_, fun _ _ => ⟨k6.1.trans p1, k6.2.1.trans p2, fun g hg => by rw [k6.2.2]; exact p3 g hg⟩⟩
      rcases hc with hc | hc
      · cases hc
      · exact absurd hc c
  · exact ⟨X1, k7 (h1 rfl), k1.trans hk, P1, fun _ => B1, fun hc => by cases hc⟩
theorem nextPh_loop {X : ModelV} (hr : RelM (Model_now X) v) (hn : WFn v) (hw : WFG v) : ∀ (k n : Nat) (φ : Nat → Nat) (f : Nat → Int32), k ≤ hG v → k < n → box (rM v) φ (hG v) → (∀ g, g < hG v → f g = I (φ g : Int)) → ∃ b φ' f', Mod_nextPhases_7 n (I ((k : Int) - 1)) (Model_set_phases X f) = some (b, Model_set_phases X f') ∧ b = decide (val (rM v) φ k + 1 < prd (rM v) k) ∧ (b = true → box (rM v) φ' (hG v) ∧ (∀ g, g < hG v → f' g = I (φ' g : Int)) ∧ (∀ g, k ≤ g → φ' g = φ g) ∧ val (rM v) φ' k = val (rM v) φ k + 1) := by
  have hG4 : hG v ≤ 4 := hn.2.2.2.2.2.2.1
  intro k
  induction k with
  | zero =>
    intro n φ f hk hm hb hf
    obtain ⟨n, rfl⟩ : ∃ q, n = q + 1 := ⟨n - 1, by omega⟩
    rw [Mod_nextPhases_7, I0, if_pos (I_le_t (by omega) (by omega) (by omega))]
    exact ⟨false, φ, f, rfl, rfl, fun h => by cases h⟩
  | succ k ih =>
    intro n φ f hk hm hb hf
    obtain ⟨n, rfl⟩ : ∃ q, n = q + 1 := ⟨n - 1, by omega⟩
    rw [Mod_nextPhases_7, show ((k + 1 : Nat) : Int) - 1 = (k : Int) by omega, I0]
    by_cases hk0 : k = 0
    · subst hk0
      rw [if_pos (I_le_t (by omega) (by omega) (by omega))]
      refine ⟨false, φ, f, rfl, ?_, fun h => by cases h⟩
      have h0 := hb 0 (by omega)
      have hr0 : rM v 0 = 1 := if_pos rfl
      rw [val_succ, prd_succ, hr0] at *
      show false = decide (0 * 1 + φ 0 + 1 < 1 * 1)
      rw [decide_eq_false (by omega)]
    · have hp := hw.per k (by omega)
      have hbk := hb k (by omega)
      have hrk : rM v k = hP v k := if_neg hk0
      have ef : Model_phases (Model_set_phases X f) k = I (φ k : Int) := by rw [Mo_phases_phases]; exact hf k (by omega)
      have ef2 : Model_phases (Model_set_phases (Model_set_phases X f) (upd (Model_phases (Model_set_phases X f)) k (I ((φ k + 1 : Nat) : Int)))) k = I ((φ k + 1 : Nat) : Int) := by rw [Mo_phases_phases]; exact upd_i
      rw [if_neg (I_le_f (by omega) (by omega) (by omega)), gd_I (by omega) (by omega) (by omega), nmL_e, I_clamp k (by omega), ef, I_succ, period_m (mv := Model_set_phases (Model_set_phases X f) (upd (Model_phases (Model_set_phases X f)) k (I ((φ k + 1 : Nat) : Int)))) (rel_ph (rel_ph hr)) hn (by omega), bind_s, ef2, (hw k (by omega)).1.1]
      by_cases c : hP v k ≤ φ k + 1
      · rw [if_pos (I_le_t (by omega) (by omega) (by omega)), nmL_e, nmL_e, Im1, I_add]
        obtain ⟨b, φ', f', e, hbv, hbt⟩ := ih n (fun g => if g = k then 0 else φ g) (upd (upd f k (I ((φ k + 1 : Nat) : Int))) k (I ((0 : Nat) : Int))) (by omega) (by omega) (fun g hg => by
          try dsimp only
          split
          · rename_i hgk; subst hgk; omega
          · exact hb g hg) (fun g hg => by
          try dsimp only
          by_cases hgk : g = k
          · subst hgk; rw [upd_i, if_pos rfl]
          · rw [upd_n hgk, upd_n hgk, if_neg hgk]; exact hf g hg)
        have e1 : val (rM v) (fun g => if g = k then 0 else φ g) k = val (rM v) φ k := val_congr fun g hg => if_neg (by omega)
        rw [e1] at hbv hbt
        refine ⟨b, φ', f', e, ?_, fun hb1 => ?_⟩
        · rw [hbv]
          apply decide_eq_decide.mpr
          rw [val_succ, prd_succ, hrk]
          have hek : φ k + 1 = hP v k := by omega
          constructor
          · intro h
            have := mul_step (r := hP v k) (x := 0) h (by omega)
            rw [Nat.succ_mul] at this
            omega
          · intro h
            apply Nat.lt_of_not_le
            intro hle
            have := Nat.mul_le_mul_right (hP v k) hle
            rw [Nat.succ_mul] at this
            omega
        · obtain ⟨c1, c2, c3, c4⟩ := hbt hb1
          refine ⟨c1, c2, fun g hg => by rw [c3 g (by omega), if_neg (by omega)], ?_⟩
          have e2 : φ' k = 0 := by rw [c3 k (Nat.le_refl k), if_pos rfl]
          rw [val_succ, val_succ, c4, e2, Nat.succ_mul, hrk]
          omega
      · rw [if_neg (I_le_f (by omega) (by omega) (by omega))]
        refine ⟨true, fun g => if g = k then φ k + 1 else φ g, _, rfl, ?_, fun _ => ⟨fun g hg => ?_, fun g hg => ?_, fun g hg => if_neg (by omega), ?_⟩⟩
        · symm
          apply decide_eq_true
          have := val_lt (r := rM v) (φ := φ) (k := k) fun g hg => hb g (by omega)
          rw [val_succ, prd_succ]
          have := mul_step this (r := rM v k) (x := φ k + 1) (by omega)
          omega
        · try dsimp only
          split
          · rename_i hgk; subst hgk; omega
          · exact hb g hg
        · try dsimp only
          show upd f k (I ((φ k + 1 : Nat) : Int)) g = _
          by_cases hgk : g = k
          · subst hgk; rw [upd_i, if_pos rfl]
          · rw [upd_n hgk, if_neg hgk]; exact hf g hg
        · rw [val_succ, val_succ, val_congr (ψ := φ) fun g hg => if_neg (by omega), if_pos rfl]
          omega
theorem prdM_b (hn : WFn v) (hw : WFG v) : 1 ≤ prd (rM v) (hG v) ∧ prd (rM v) (hG v) ≤ 10000 := by
  have h := prd_le (r := rM v) (k := hG v) fun g hg => ⟨by have := rC_le hw hg; omega, by have := rM_le hw hg; have := hw.per g hg; omega⟩
  exact ⟨h.1, Nat.le_trans h.2 (Nat.le_trans (Nat.pow_le_pow_right (by decide) hn.2.2.2.2.2.2.1) (by decide))⟩
theorem layBest_loop {M : ModelV} (hr0 : RelM (Model_now M) v) (hn : WFn v) (hw : WFG v) : ∀ (q c n : Nat) (X : ModelV) (φ β : Nat → Nat), prd (rM v) (hG v) = c + 1 + q → q < n → kp X = kp M → box (rM v) φ (hG v) → (∀ g, g < hG v → Model_phases X g = I (φ g : Int)) → val (rM v) φ (hG v) = c → BM X v β → BestIn (EV v) (rM v) (hG v) (c + 1) β → ∃ X' γ, Mod_layBest_32 n X = some X' ∧ kp X' = kp M ∧ BM X' v γ ∧ BestIn (EV v) (rM v) (hG v) (prd (rM v) (hG v)) γ := by
  have hG4 : hG v ≤ 4 := hn.2.2.2.2.2.2.1
  intro q
  induction q with
  | zero =>
    intro c n X φ β hq hm hk hb hf hv hB hI
    obtain ⟨n, rfl⟩ : ∃ q, n = q + 1 := ⟨n - 1, by omega⟩
    have hr : RelM (Model_now X) v := by rw [kp_now hk]; exact hr0
    obtain ⟨b, φ', f', e, hbv, hbt⟩ := nextPh_loop (X := X) hr hn hw (hG v) FU φ (Model_phases X) (Nat.le_refl _) (by unfold FU; omega) hb hf
    rw [decide_eq_false (by omega)] at hbv
    subst hbv
    rw [Mod_layBest_32]
    unfold Mod_nextPhases
    rw [guards_m hr hn, bind_s, nmL_e, I1, I_sub, show X = Model_set_phases X (Model_phases X) from rfl, e, bind_s, bif_f]
    refine ⟨_, β, rfl, hk, hB, ?_⟩
    rw [hq]; exact hI
  | succ q ih =>
    intro c n X φ β hq hm hk hb hf hv hB hI
    obtain ⟨n, rfl⟩ : ∃ q, n = q + 1 := ⟨n - 1, by omega⟩
    have hr : RelM (Model_now X) v := by rw [kp_now hk]; exact hr0
    obtain ⟨b, φ', f', e, hbv, hbt⟩ := nextPh_loop (X := X) hr hn hw (hG v) FU φ (Model_phases X) (Nat.le_refl _) (by unfold FU; omega) hb hf
    rw [decide_eq_true (by omega)] at hbv
    subst hbv
    obtain ⟨c1, c2, -, c4⟩ := hbt rfl
    rw [Mod_layBest_32]
    unfold Mod_nextPhases
    rw [guards_m hr hn, bind_s, nmL_e, I1, I_sub, show X = Model_set_phases X (Model_phases X) from rfl, e, bind_s, bif_t]
    obtain ⟨X', e', k1, k2, t1, t2⟩ := judge_m (M := M) (X := Model_set_phases X f') (by rw [kp_phases]; exact hk) (rel_ph hr) hn hw (boxM_P hw c1) (fun q hq => by rw [Mo_phases_phases]; exact c2 q hq) false (β := β) (fun h => by cases h) (fun _ => ⟨hB, boxM_P hw hI.1⟩)
    rw [e', bind_s]
    have hv' : val (rM v) φ' (hG v) = c + 1 := by rw [c4, hv]
    by_cases cc : eLt (EV v φ') (EV v β)
    · exact ih (c + 1) n X' φ' φ' (by omega) (by omega) k1 c1 k2 hv' (t1 (Or.inr cc)) (best_new EV_congr hI c1 hv' cc)
    · exact ih (c + 1) n X' φ' β (by omega) (by omega) k1 c1 k2 hv' (t2 rfl cc) (best_same EV_congr hI c1 hv' cc)
theorem layBest7_loop {M X : ModelV} (hk0 : kp X = kp M) (hr0 : RelM (Model_now M) v) (hn : WFn v) (hw : WFG v) (hlw : Model_leastWorst X = -1) : ∀ (q k n : Nat) (f : Nat → Int32), hG v = k + q → q < n → (∀ g, g < k → f g = I ((0 : Nat) : Int)) → ∃ X' γ, Mod_layBest_7 n (I (k : Int)) (Model_set_phases X f) = some X' ∧ kp X' = kp M ∧ BM X' v γ ∧ BestIn (EV v) (rM v) (hG v) (prd (rM v) (hG v)) γ := by
  have hG4 : hG v ≤ 4 := hn.2.2.2.2.2.2.1
  have hr : RelM (Model_now X) v := by rw [kp_now hk0]; exact hr0
  have hN := prdM_b hn hw
  intro q
  induction q with
  | zero =>
    intro k n f hk hm h1
    obtain ⟨n, rfl⟩ : ∃ q, n = q + 1 := ⟨n - 1, by omega⟩
    have hb : box (rM v) (fun _ => 0) (hG v) := fun g hg => by
      show 0 < rM v g
      have := rC_le hw hg
      omega
    have hv0 : ∀ k, val (rM v) (fun _ => 0) k = 0 := by
      intro k
      induction k with
      | zero => rfl
      | succ k ih => unfold val; rw [ih, Nat.zero_mul]
    rw [Mod_layBest_7, guards_m (mv := Model_set_phases X f) (rel_ph hr) hn, bind_s, if_pos (I_le_t (by omega) (by omega) (by omega))]
    obtain ⟨X', e', k1, k2, t1, -⟩ := judge_m (M := M) (X := Model_set_phases X f) (φ := fun _ => 0) (by rw [kp_phases]; exact hk0) (rel_ph hr) hn hw (boxM_P hw hb) (fun g hg => by rw [Mo_phases_phases]; exact h1 g (by omega)) true (β := fun _ => 0) (fun _ => by rw [Mo_leastWorst_phases]; exact hlw) (fun h => by cases h)
    rw [e', bind_s]
    exact layBest_loop hr0 hn hw (prd (rM v) (hG v) - 1) 0 FU X' (fun _ => 0) (fun _ => 0) (by omega) (by unfold FU; omega) k1 hb k2 (hv0 _) (t1 (Or.inl rfl)) (best_first EV_congr hb (hv0 _))
  | succ q ih =>
    intro k n f hk hm h1
    obtain ⟨n, rfl⟩ : ∃ q, n = q + 1 := ⟨n - 1, by omega⟩
    rw [Mod_layBest_7, guards_m (mv := Model_set_phases X f) (rel_ph hr) hn, bind_s, if_neg (I_le_f (by omega) (by omega) (by omega)), gd_I (by omega) (by omega) (by omega), nmL_e, nmL_e, I_clamp k (by omega), I_succ]
    refine ih (k + 1) n (upd f k 0) (by omega) (by omega) (fun g hg => ?_)
    by_cases hgk : g = k
    · subst hgk; exact upd_i
    · exact (upd_n hgk).trans (h1 g (by omega))
theorem layBest7_s {M X : ModelV} (hk0 : kp X = kp M) (hr0 : RelM (Model_now M) v) (hn : WFn v) (hw : WFG v) (hlw : Model_leastWorst X = -1) : ∃ X' γ, Mod_layBest_7 FU 0 X = some X' ∧ kp X' = kp M ∧ BM X' v γ ∧ BestIn (EV v) (rM v) (hG v) (prd (rM v) (hG v)) γ := by
  have hG4 : hG v ≤ 4 := hn.2.2.2.2.2.2.1
  have z3 : Model_set_phases X (Model_phases X) = X := rfl
  have h := layBest7_loop (M := M) (X := X) hk0 hr0 hn hw hlw (hG v) 0 FU (Model_phases X) (by omega) (by unfold FU; omega) (fun g hg => absurd hg (by omega))
  rw [z3, ← I_zero] at h
  exact h
theorem layBest_m {M : ModelV} (hr : RelM (Model_now M) v) (hn : WFn v) (hw : WFG v) : ∃ X' γ, Mod_layBest M = some X' ∧ kp X' = kp M ∧ BM X' v γ ∧ BestIn (EV v) (rM v) (hG v) (prd (rM v) (hG v)) γ := by
  unfold Mod_layBest
  rw [nmL_e]
  exact layBest7_s (M := M) (X := Model_set_leastWorst M (-1)) (kp_leastWorst M _) hr hn hw (Mo_leastWorst_leastWorst M _)
end
end BESTM
