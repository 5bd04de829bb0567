section BESTM
theorem val_succ (r φ : Nat → Nat) (k : Nat) : val r φ (k + 1) = val r φ k * r k + φ k := rfl
theorem prd_succ (r : Nat → Nat) (k : Nat) : prd r (k + 1) = prd r k * r k := rfl
/-- what lasts of the model, and what it threw -/
def kpA (m : ModelV) : (Nat → Int32) × (Nat → Int32) × (Nat → Int32) × Int32 × Bool × (Nat → Int32) × Int32 × (Nat → Int32) × Int32 × Int32 := (Model_now m, Model_snapshot m, Model_history m, Model_undoCount m, Model_hasSnapshot m, Model_formatted m, Model_formattedLength m, Model_buffer m, Model_bufferLength m, Model_errorPosition m)
def kp (m : ModelV) : Int32 × ((Nat → Int32) × (Nat → Int32) × (Nat → Int32) × Int32 × Bool × (Nat → Int32) × Int32 × (Nat → Int32) × Int32 × Int32) := (Model_thrown m, kpA m)
theorem kp_now {m m' : ModelV} (h : kp m' = kp m) : Model_now m' = Model_now m := congrArg (fun q => q.2.1) h
/-- the best ones so far are β, in the model -/
def BM (m : ModelV) (v : HouseV) (β : Nat → Nat) : Prop := Model_leastWorst m = I (EV v β).1 ∧ Model_leastCrossings m = I (EV v β).2 ∧ ∀ g, g < hG v → Model_bestPhases m g = I (β g : Int)
section
variable {v : HouseV}
theorem MV_of {X : ModelV} (hr : RelM (Model_now X) v) (hn : WFn v) (hw : WFG v) {φ : Nat → Nat} (hb : box (hP v) φ (hG v)) (hf : ∀ g, g < hG v → Model_phases X g = I (φ g : Int)) : MV X v (fun g => I (φ g : Int)) := by
  refine ⟨hr, hn, hw, HS_wf hw hb, fun g hg => ?_⟩
  have h1 := hw.per g hg
  have h2 := hb g hg
  have e : hF (House_set_phases v fun g => I (φ g : Int)) g = φ g := HS_F (by omega)
  rw [e]
  exact ⟨hf g hg, h2⟩
theorem judge67_loop {X : ModelV} (hr : RelM (Model_now X) v) (hn : WFn v) {φ : Nat → Nat} (hf : ∀ g, g < hG v → Model_phases X g = I (φ g : Int)) : ∀ (q k n : Nat) (b : Nat → Int32), hG v = k + q → q < n → (∀ g, g < k → b g = I (φ g : Int)) → ∃ b', Mod_judgePhases_67 n (I (k : Int)) (Model_set_bestPhases X b) = some (Model_set_bestPhases X b') ∧ ∀ g, g < hG v → b' g = I (φ g : Int) := by
  have hG4 : hG v ≤ 4 := hn.2.2.2.2.2.2.1
  intro q
  induction q with
  | zero =>
    intro k n b hk hm h1
    obtain ⟨n, rfl⟩ : ∃ q, n = q + 1 := ⟨n - 1, by omega⟩
    rw [Mod_judgePhases_67, guards_m (mv := Model_set_bestPhases X b) hr hn, bind_s, if_pos (I_le_t (by omega) (by omega) (by omega))]
    exact ⟨b, rfl, fun g hg => h1 g (by omega)⟩
  | succ q ih =>
    intro k n b hk hm h1
    obtain ⟨n, rfl⟩ : ∃ q, n = q + 1 := ⟨n - 1, by omega⟩
    have eph : Model_phases (Model_set_bestPhases X b) k = I (φ k : Int) := hf k (by omega)
    rw [Mod_judgePhases_67, guards_m (mv := Model_set_bestPhases X b) hr hn, bind_s, if_neg (I_le_f (by omega) (by omega) (by omega)), gd_I (by omega) (by omega) (by omega), nmL_e, nmL_e, I_clamp k (by omega), I_succ, eph]
    refine ih (k + 1) n (upd b k (I (φ k : Int))) (by omega) (by omega) (fun g hg => ?_)
    by_cases hgk : g = k
    · subst hgk; exact upd_i
    · exact (upd_n hgk).trans (h1 g (by omega))
theorem judge_m {M X : ModelV} (hk : kp X = kp M) (hr : RelM (Model_now X) v) (hn : WFn v) (hw : WFG v) {φ : Nat → Nat} (hb : box (hP v) φ (hG v)) (hf : ∀ g, g < hG v → Model_phases X g = I (φ g : Int)) (first : Bool) {β : Nat → Nat} (h1 : first = true → Model_leastWorst X = -1) (h2 : first = false → BM X v β ∧ box (hP v) β (hG v)) : ∃ X', Mod_judgePhases X = some X' ∧ kp X' = kp M ∧ (∀ g, g < hG v → Model_phases X' g = I (φ g : Int)) ∧ ((first = true ∨ eLt (EV v φ) (EV v β)) → BM X' v φ) ∧ (first = false → ¬ eLt (EV v φ) (EV v β) → BM X' v β) := by
  have hG4 : hG v ≤ 4 := hn.2.2.2.2.2.2.1
  have H := MV_of hr hn hw hb hf
  obtain ⟨c, f, l, s, g, b, e, hc, hg⟩ := layCycle_m (M := X) (v := v) (p := fun g => I (φ g : Int)) hr hn hw H.2.2.2.1 H.2.2.2.2
  obtain ⟨b1, b2, b3, b4⟩ := EV_b hw hG4 hb
  have hwl := worstLaid_m (M := Model_set_cycleNow X c) (w := HS v φ) (f := f) (l := l) hr hn (cyc_pos H.2.2.2.1) (cyc_le H.2.2.2.1) hg (HS_R v φ)
  have hnow : Model_now (ML (Model_set_cycleNow X c) f l s g b) = Model_now X := rfl
  have hphs : Model_phases (ML (Model_set_cycleNow X c) f l s g b) = Model_phases X := rfl
  have hcyc : Model_cycleNow (ML (Model_set_cycleNow X c) f l s g b) = c := rfl
  have hlw : Model_leastWorst (ML (Model_set_cycleNow X c) f l s g b) = Model_leastWorst X := rfl
  have hlc : Model_leastCrossings (ML (Model_set_cycleNow X c) f l s g b) = Model_leastCrossings X := rfl
  have hbp : Model_bestPhases (ML (Model_set_cycleNow X c) f l s g b) = Model_bestPhases X := rfl
  have hkk : kp (ML (Model_set_cycleNow X c) f l s g b) = kp X := rfl
  unfold Mod_judgePhases
  rw [e, bind_s]
  generalize ML (Model_set_cycleNow X c) f l s g b = Y at *
  rw [hk] at hkk
  have hff : ∀ q, q < hG v → Model_phases Y q = I (φ q : Int) := fun q hq => by rw [hphs]; exact hf q hq
  have hrr : RelM (Model_now Y) v := by rw [hnow]; exact hr
  have hcr := crossings_m (MV_of hrr hn hw hb hff) (hcyc.trans hc)
  rw [hwl, bind_s, hlw]
  rw [show worst (HS v φ) = (EV v φ).1 from rfl]
  rw [show cross (House_set_phases v fun g => I (φ g : Int)) = (EV v φ).2 from rfl] at hcr
  have fin0 : ∀ wv cv : Int32, wv = I (EV v φ).1 → cv = I (EV v φ).2 → ∃ X', Mod_judgePhases_67 FU 0 (Model_set_leastCrossings (Model_set_leastWorst Y wv) cv) = some X' ∧ kp X' = kp M ∧ (∀ g, g < hG v → Model_phases X' g = I (φ g : Int)) ∧ BM X' v φ := by
    intro wv cv hwv hcv
    have z1 : Model_now (Model_set_leastCrossings (Model_set_leastWorst Y wv) cv) = Model_now Y := rfl
    have z2 : Model_phases (Model_set_leastCrossings (Model_set_leastWorst Y wv) cv) = Model_phases Y := rfl
    have z3 : kp (Model_set_leastCrossings (Model_set_leastWorst Y wv) cv) = kp Y := rfl
    have z4 : Model_leastWorst (Model_set_leastCrossings (Model_set_leastWorst Y wv) cv) = wv := rfl
    have z5 : Model_leastCrossings (Model_set_leastCrossings (Model_set_leastWorst Y wv) cv) = cv := rfl
    generalize Model_set_leastCrossings (Model_set_leastWorst Y wv) cv = Z at *
    obtain ⟨b', e', hb'⟩ := judge67_loop (X := Z) (by rw [z1]; exact hrr) hn (fun q hq => by rw [z2]; exact hff q hq) (hG v) 0 FU (Model_bestPhases Z) (by omega) (by unfold FU; omega) (fun g hg => absurd hg (by omega))
    have y1 : kp (Model_set_bestPhases Z b') = kp Z := rfl
    have y2 : Model_phases (Model_set_bestPhases Z b') = Model_phases Z := rfl
    have y3 : Model_leastWorst (Model_set_bestPhases Z b') = Model_leastWorst Z := rfl
    have y4 : Model_leastCrossings (Model_set_bestPhases Z b') = Model_leastCrossings Z := rfl
    have y5 : Model_bestPhases (Model_set_bestPhases Z b') = b' := rfl
    have y6 : Model_set_bestPhases Z (Model_bestPhases Z) = Z := rfl
    rw [y6] at e'
    exact ⟨_, e', by rw [y1, z3, hkk], fun q hq => by rw [y2, z2]; exact hff q hq, by rw [y3, z4, hwv], by rw [y4, z5, hcv], fun g hg => by rw [y5]; exact hb' g hg⟩
  have fin := fin0 _ _ rfl rfl
  cases first
  · obtain ⟨⟨p1, p2, p3⟩, p4⟩ := h2 rfl
    obtain ⟨d1, d2, d3, d4⟩ := EV_b hw hG4 p4
    rw [p1, Im1, if_neg (I_ne (by omega) (by omega) (by omega) (by omega) (by omega))]
    have keep : BM Y v β := ⟨by rw [hlw, p1], by rw [hlc, p2], fun g hg => by rw [hbp]; exact p3 g hg⟩
    unfold eLt
    by_cases c1 : (EV v φ).1 ≤ (EV v β).1
    · rw [if_pos (I_le_t c1 (by omega) (by omega))]
      unfold Mod_judgePhases_26
      rw [hcr, bind_s, hlw, p1, Im1, if_neg (I_ne (by omega) (by omega) (by omega) (by omega) (by omega))]
      by_cases c2 : (EV v φ).1 < (EV v β).1
      · rw [if_pos (I_lt_t c2 (by omega) (by omega)), nmL_e, nmL_e]
        obtain ⟨X', e1, e2, e3, e4⟩ := fin
        exact ⟨X', e1, e2, e3, fun _ => e4, fun _ hc => absurd (Or.inl c2) hc⟩
      · rw [if_neg (I_lt_f (by omega) (by omega) (by omega)), hlc, p2]
        by_cases c3 : (EV v β).2 ≤ (EV v φ).2
        · rw [if_pos (I_le_t c3 (by omega) (by omega))]
          exact ⟨Y, rfl, hkk, hff, fun hc => absurd hc (by simp; omega), fun _ _ => keep⟩
        · rw [if_neg (I_le_f (by omega) (by omega) (by omega)), nmL_e, nmL_e]
          obtain ⟨X', e1, e2, e3, e4⟩ := fin
          exact ⟨X', e1, e2, e3, fun _ => e4, fun _ hc => absurd (Or.inr ⟨by omega, by omega⟩) hc⟩
    · rw [if_neg (I_le_f (by omega) (by omega) (by omega))]
      exact ⟨Y, rfl, hkk, hff, fun hc => absurd hc (by simp; omega), fun _ _ => keep⟩
  · rw [h1 rfl, if_pos rfl]
    unfold Mod_judgePhases_26
    rw [hcr, bind_s, hlw, h1 rfl, if_pos rfl, nmL_e, nmL_e]
    obtain ⟨X', e1, e2, e3, e4⟩ := fin
    exact ⟨X', e1, e2, e3, fun _ => e4, fun hc => absurd hc (by simp)⟩
theorem nextPh_loop {X : ModelV} (hr : RelM (Model_now X) v) (hn : WFn v) (hw : WFG v) : ∀ (k n : Nat) (φ : Nat → Nat) (f : Nat → Int32), k ≤ hG v → k < n → box (rM v) φ (hG v) → (∀ g, g < hG v → f g = I (φ g : Int)) → ∃ b φ' f', Mod_nextPhases_7 n (I ((k : Int) - 1)) (Model_set_phases X f) = some (b, Model_set_phases X f') ∧ b = decide (val (rM v) φ k + 1 < prd (rM v) k) ∧ (b = true → box (rM v) φ' (hG v) ∧ (∀ g, g < hG v → f' g = I (φ' g : Int)) ∧ (∀ g, k ≤ g → φ' g = φ g) ∧ val (rM v) φ' k = val (rM v) φ k + 1) := by
  have hG4 : hG v ≤ 4 := hn.2.2.2.2.2.2.1
  intro k
  induction k with
  | zero =>
    intro n φ f hk hm hb hf
    obtain ⟨n, rfl⟩ : ∃ q, n = q + 1 := ⟨n - 1, by omega⟩
    rw [Mod_nextPhases_7, I0, if_pos (I_le_t (by omega) (by omega) (by omega))]
    exact ⟨false, φ, f, rfl, rfl, fun h => by cases h⟩
  | succ k ih =>
    intro n φ f hk hm hb hf
    obtain ⟨n, rfl⟩ : ∃ q, n = q + 1 := ⟨n - 1, by omega⟩
    rw [Mod_nextPhases_7, show ((k + 1 : Nat) : Int) - 1 = (k : Int) by omega, I0]
    by_cases hk0 : k = 0
    · subst hk0
      rw [if_pos (I_le_t (by omega) (by omega) (by omega))]
      refine ⟨false, φ, f, rfl, ?_, fun h => by cases h⟩
      have h0 := hb 0 (by omega)
      have hr0 : rM v 0 = 1 := if_pos rfl
      rw [val_succ, prd_succ, hr0] at *
      show false = decide (0 * 1 + φ 0 + 1 < 1 * 1)
      rw [decide_eq_false (by omega)]
    · have hp := hw.per k (by omega)
      have hbk := hb k (by omega)
      have hrk : rM v k = hP v k := if_neg hk0
      have ef : Model_phases (Model_set_phases X f) k = I (φ k : Int) := hf k (by omega)
      have ef2 : Model_phases (Model_set_phases (Model_set_phases X f) (upd (Model_phases (Model_set_phases X f)) k (I ((φ k + 1 : Nat) : Int)))) k = I ((φ k + 1 : Nat) : Int) := upd_i
      rw [if_neg (I_le_f (by omega) (by omega) (by omega)), gd_I (by omega) (by omega) (by omega), nmL_e, I_clamp k (by omega), ef, I_succ, period_m (mv := Model_set_phases (Model_set_phases X f) (upd (Model_phases (Model_set_phases X f)) k (I ((φ k + 1 : Nat) : Int)))) hr hn (by omega), bind_s, ef2, (hw k (by omega)).1.1]
      by_cases c : hP v k ≤ φ k + 1
      · rw [if_pos (I_le_t (by omega) (by omega) (by omega)), nmL_e, nmL_e, Im1, I_add]
        obtain ⟨b, φ', f', e, hbv, hbt⟩ := ih n (fun g => if g = k then 0 else φ g) (upd (upd f k (I ((φ k + 1 : Nat) : Int))) k (I ((0 : Nat) : Int))) (by omega) (by omega) (fun g hg => by
          try dsimp only
          split
          · rename_i hgk; subst hgk; omega
          · exact hb g hg) (fun g hg => by
          try dsimp only
          by_cases hgk : g = k
          · subst hgk; rw [upd_i, if_pos rfl]
          · rw [upd_n hgk, upd_n hgk, if_neg hgk]; exact hf g hg)
        have e1 : val (rM v) (fun g => if g = k then 0 else φ g) k = val (rM v) φ k := val_congr fun g hg => if_neg (by omega)
        rw [e1] at hbv hbt
        refine ⟨b, φ', f', e, ?_, fun hb1 => ?_⟩
        · rw [hbv]
          apply decide_eq_decide.mpr
          rw [val_succ, prd_succ, hrk]
          have hek : φ k + 1 = hP v k := by omega
          constructor
          · intro h
            have := mul_step (r := hP v k) (x := 0) h (by omega)
            rw [Nat.succ_mul] at this
            omega
          · intro h
            apply Nat.lt_of_not_le
            intro hle
            have := Nat.mul_le_mul_right (hP v k) hle
            rw [Nat.succ_mul] at this
            omega
        · obtain ⟨c1, c2, c3, c4⟩ := hbt hb1
          refine ⟨c1, c2, fun g hg => by rw [c3 g (by omega), if_neg (by omega)], ?_⟩
          have e2 : φ' k = 0 := by rw [c3 k (Nat.le_refl k), if_pos rfl]
          rw [val_succ, val_succ, c4, e2, Nat.succ_mul, hrk]
          omega
      · rw [if_neg (I_le_f (by omega) (by omega) (by omega))]
        refine ⟨true, fun g => if g = k then φ k + 1 else φ g, _, rfl, ?_, fun _ => ⟨fun g hg => ?_, fun g hg => ?_, fun g hg => if_neg (by omega), ?_⟩⟩
        · symm
          apply decide_eq_true
          have := val_lt (r := rM v) (φ := φ) (k := k) fun g hg => hb g (by omega)
          rw [val_succ, prd_succ]
          have := mul_step this (r := rM v k) (x := φ k + 1) (by omega)
          omega
        · try dsimp only
          split
          · rename_i hgk; subst hgk; omega
          · exact hb g hg
        · try dsimp only
          show upd f k (I ((φ k + 1 : Nat) : Int)) g = _
          by_cases hgk : g = k
          · subst hgk; rw [upd_i, if_pos rfl]
          · rw [upd_n hgk, if_neg hgk]; exact hf g hg
        · rw [val_succ, val_succ, val_congr (ψ := φ) fun g hg => if_neg (by omega), if_pos rfl]
          omega
theorem prdM_b (hn : WFn v) (hw : WFG v) : 1 ≤ prd (rM v) (hG v) ∧ prd (rM v) (hG v) ≤ 10000 := by
  have h := prd_le (r := rM v) (k := hG v) fun g hg => ⟨by have := rC_le hw hg; omega, by have := rM_le hw hg; have := hw.per g hg; omega⟩
  exact ⟨h.1, Nat.le_trans h.2 (Nat.le_trans (Nat.pow_le_pow_right (by decide) hn.2.2.2.2.2.2.1) (by decide))⟩
theorem layBest_loop {M : ModelV} (hr0 : RelM (Model_now M) v) (hn : WFn v) (hw : WFG v) : ∀ (q c n : Nat) (X : ModelV) (φ β : Nat → Nat), prd (rM v) (hG v) = c + 1 + q → q < n → kp X = kp M → box (rM v) φ (hG v) → (∀ g, g < hG v → Model_phases X g = I (φ g : Int)) → val (rM v) φ (hG v) = c → BM X v β → BestIn (EV v) (rM v) (hG v) (c + 1) β → ∃ X' γ, Mod_layBest_32 n X = some X' ∧ kp X' = kp M ∧ BM X' v γ ∧ BestIn (EV v) (rM v) (hG v) (prd (rM v) (hG v)) γ := by
  have hG4 : hG v ≤ 4 := hn.2.2.2.2.2.2.1
  intro q
  induction q with
  | zero =>
    intro c n X φ β hq hm hk hb hf hv hB hI
    obtain ⟨n, rfl⟩ : ∃ q, n = q + 1 := ⟨n - 1, by omega⟩
    have hr : RelM (Model_now X) v := by rw [kp_now hk]; exact hr0
    obtain ⟨b, φ', f', e, hbv, hbt⟩ := nextPh_loop (X := X) hr hn hw (hG v) FU φ (Model_phases X) (Nat.le_refl _) (by unfold FU; omega) hb hf
    rw [decide_eq_false (by omega)] at hbv
    subst hbv
    rw [Mod_layBest_32]
    unfold Mod_nextPhases
    rw [guards_m hr hn, bind_s, nmL_e, I1, I_sub, show X = Model_set_phases X (Model_phases X) from rfl, e, bind_s, bif_f]
    refine ⟨_, β, rfl, hk, hB, ?_⟩
    rw [hq]; exact hI
  | succ q ih =>
    intro c n X φ β hq hm hk hb hf hv hB hI
    obtain ⟨n, rfl⟩ : ∃ q, n = q + 1 := ⟨n - 1, by omega⟩
    have hr : RelM (Model_now X) v := by rw [kp_now hk]; exact hr0
    obtain ⟨b, φ', f', e, hbv, hbt⟩ := nextPh_loop (X := X) hr hn hw (hG v) FU φ (Model_phases X) (Nat.le_refl _) (by unfold FU; omega) hb hf
    rw [decide_eq_true (by omega)] at hbv
    subst hbv
    obtain ⟨c1, c2, -, c4⟩ := hbt rfl
    rw [Mod_layBest_32]
    unfold Mod_nextPhases
    rw [guards_m hr hn, bind_s, nmL_e, I1, I_sub, show X = Model_set_phases X (Model_phases X) from rfl, e, bind_s, bif_t]
    obtain ⟨X', e', k1, k2, t1, t2⟩ := judge_m (M := M) (X := Model_set_phases X f') hk hr hn hw (boxM_P hw c1) c2 false (β := β) (fun h => by cases h) (fun _ => ⟨hB, boxM_P hw hI.1⟩)
    rw [e', bind_s]
    have hv' : val (rM v) φ' (hG v) = c + 1 := by rw [c4, hv]
    by_cases cc : eLt (EV v φ') (EV v β)
    · exact ih (c + 1) n X' φ' φ' (by omega) (by omega) k1 c1 k2 hv' (t1 (Or.inr cc)) (best_new EV_congr hI c1 hv' cc)
    · exact ih (c + 1) n X' φ' β (by omega) (by omega) k1 c1 k2 hv' (t2 rfl cc) (best_same EV_congr hI c1 hv' cc)
theorem layBest7_loop {M X : ModelV} (hk0 : kp X = kp M) (hr0 : RelM (Model_now M) v) (hn : WFn v) (hw : WFG v) (hlw : Model_leastWorst X = -1) : ∀ (q k n : Nat) (f : Nat → Int32), hG v = k + q → q < n → (∀ g, g < k → f g = I ((0 : Nat) : Int)) → ∃ X' γ, Mod_layBest_7 n (I (k : Int)) (Model_set_phases X f) = some X' ∧ kp X' = kp M ∧ BM X' v γ ∧ BestIn (EV v) (rM v) (hG v) (prd (rM v) (hG v)) γ := by
  have hG4 : hG v ≤ 4 := hn.2.2.2.2.2.2.1
  have hr : RelM (Model_now X) v := by rw [kp_now hk0]; exact hr0
  have hN := prdM_b hn hw
  intro q
  induction q with
  | zero =>
    intro k n f hk hm h1
    obtain ⟨n, rfl⟩ : ∃ q, n = q + 1 := ⟨n - 1, by omega⟩
    have hb : box (rM v) (fun _ => 0) (hG v) := fun g hg => by
      show 0 < rM v g
      have := rC_le hw hg
      omega
    have hv0 : ∀ k, val (rM v) (fun _ => 0) k = 0 := by
      intro k
      induction k with
      | zero => rfl
      | succ k ih => unfold val; rw [ih, Nat.zero_mul]
    rw [Mod_layBest_7, guards_m (mv := Model_set_phases X f) hr hn, bind_s, if_pos (I_le_t (by omega) (by omega) (by omega))]
    obtain ⟨X', e', k1, k2, t1, -⟩ := judge_m (M := M) (X := Model_set_phases X f) (φ := fun _ => 0) hk0 hr hn hw (boxM_P hw hb) (fun g hg => h1 g (by omega)) true (β := fun _ => 0) (fun _ => hlw) (fun h => by cases h)
    rw [e', bind_s]
    exact layBest_loop hr0 hn hw (prd (rM v) (hG v) - 1) 0 FU X' (fun _ => 0) (fun _ => 0) (by omega) (by unfold FU; omega) k1 hb k2 (hv0 _) (t1 (Or.inl rfl)) (best_first EV_congr hb (hv0 _))
  | succ q ih =>
    intro k n f hk hm h1
    obtain ⟨n, rfl⟩ : ∃ q, n = q + 1 := ⟨n - 1, by omega⟩
    rw [Mod_layBest_7, guards_m (mv := Model_set_phases X f) hr hn, bind_s, if_neg (I_le_f (by omega) (by omega) (by omega)), gd_I (by omega) (by omega) (by omega), nmL_e, nmL_e, I_clamp k (by omega), I_succ]
    refine ih (k + 1) n (upd f k 0) (by omega) (by omega) (fun g hg => ?_)
    by_cases hgk : g = k
    · subst hgk; exact upd_i
    · exact (upd_n hgk).trans (h1 g (by omega))
theorem layBest_m {M : ModelV} (hr : RelM (Model_now M) v) (hn : WFn v) (hw : WFG v) : ∃ X' γ, Mod_layBest M = some X' ∧ kp X' = kp M ∧ BM X' v γ ∧ BestIn (EV v) (rM v) (hG v) (prd (rM v) (hG v)) γ := by
  have hG4 : hG v ≤ 4 := hn.2.2.2.2.2.2.1
  unfold Mod_layBest
  rw [nmL_e]
  exact layBest7_loop (M := M) (X := Model_set_leastWorst M (-1)) rfl hr hn hw rfl (hG v) 0 FU (Model_phases M) (by omega) (by unfold FU; omega) (fun g hg => absurd hg (by omega))
end
end BESTM
