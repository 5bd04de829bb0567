section MEAS2
theorem imax_I {a b : Int} (h1 : -2147483648 ≤ a) (h2 : a ≤ 2147483647) (h3 : -2147483648 ≤ b) (h4 : b ≤ 2147483647) : imax (I a) (I b) = I (max a b) := by
  unfold imax
  by_cases h : a < b
  · rw [if_pos (I_lt_t h h1 h4), show max a b = b by omega]
  · rw [if_neg (I_lt_f (by omega) h3 h2), show max a b = a by omega]
theorem imin_I {a b : Int} (h1 : -2147483648 ≤ a) (h2 : a ≤ 2147483647) (h3 : -2147483648 ≤ b) (h4 : b ≤ 2147483647) : imin (I a) (I b) = I (min a b) := by
  unfold imin
  by_cases h : b < a
  · rw [if_pos (I_lt_t h h3 h2), show min a b = b by omega]
  · rw [if_neg (I_lt_f (by omega) h1 h4), show min a b = a by omega]
def maxTo (f : Nat → Int) : Nat → Int
  | 0 => 0
  | k + 1 => max (maxTo f k) (f k)
theorem maxTo_b {f : Nat → Int} {n : Nat} {b : Int} (hb : 0 ≤ b) (h : ∀ i, i < n → f i ≤ b) : 0 ≤ maxTo f n ∧ maxTo f n ≤ b := by
  induction n with
  | zero => exact ⟨Int.le_refl 0, hb⟩
  | succ n ih =>
    have h1 := ih (fun i hi => h i (by omega))
    have h2 := h n (by omega)
    unfold maxTo
    omega
/-- the worst gap of a house -/
def worst (v : HouseV) : Int := maxTo (fun r => gapC (Sg v r) (cyc v)) (hR v)
/-- the sightings s are those of the house v -/
def SOK (s : SightV) (v : HouseV) : Prop := (∀ r, r < hR v → SF s r (Sg v r) (cyc v)) ∧ Sight_worst s = I (worst v)
theorem close_loop {v : HouseV} (hn : WFn v) (hw : WFG v) : ∀ (m k n : Nat) (s : SightV), hR v = k + m → m < n → (∀ r, r < k → SF s r (Sg v r) (cyc v)) → (∀ r, k ≤ r → r < 12 → SR s r (cst (Sg v r) (cyc v))) → Sight_worst s = I (maxTo (fun r => gapC (Sg v r) (cyc v)) k) → ∃ s', Sight_measure_85 v (I ((cyc v : Nat) : Int)) n (I (k : Int)) s = some s' ∧ SOK s' v ∧ Sight_stamp s' = House_phasesStamp v := by
  have hR12 : hR v ≤ 12 := hn.2.2.1
  have eR : House_rooms v = I (hR v) := hn.1
  have hc1 := cyc_pos hw
  have hc2 := cyc_le hw
  intro m
  induction m with
  | zero =>
    intro k n s hk hm h1 h2 h3
    obtain ⟨n, rfl⟩ : ∃ q, n = q + 1 := ⟨n - 1, by omega⟩
    have hkk : k = hR v := by omega
    subst hkk
    rw [Sight_measure_85, eR, if_pos (I_le_t (by omega) (by omega) (by omega)), nmL_e]
    exact ⟨_, rfl, ⟨h1, h3⟩, rfl⟩
  | succ m ih =>
    intro k n s hk hm h1 h2 h3
    obtain ⟨n, rfl⟩ : ∃ q, n = q + 1 := ⟨n - 1, by omega⟩
    obtain ⟨s1, es1, p1, p2, p3, p4, p5, p6, p7⟩ := closeRound_s (by omega) hc1 (by omega) (h2 k (Nat.le_refl k) (by omega))
    have hmb : 0 ≤ maxTo (fun r => gapC (Sg v r) (cyc v)) k ∧ maxTo (fun r => gapC (Sg v r) (cyc v)) k ≤ 2520 := maxTo_b (by omega) (fun i hi => by have := gapC_b (Sg v i) hc1; omega)
    have hgb := gapC_b (Sg v k) hc1
    rw [Sight_measure_85, eR, if_neg (I_le_f (by omega) (by omega) (by omega)), I12, if_neg (I_le_f (by omega) (by omega) (by omega)), es1, bind_s, gd_I (by omega) (by omega) (by omega), nmL_e, nmL_e, I_succ, I_clamp k (by omega), p6, h3, p1.1, imax_I (by omega) (by omega) (by omega) (by omega)]
    refine ih (k + 1) n _ (by omega) (by omega) (fun r hr => ?_) (fun r hr hr2 => ?_) rfl
    · by_cases hrk : r = k
      · subst hrk; exact p1
      · obtain ⟨f1, f2, f3⟩ := h1 r (by omega)
        obtain ⟨g1, g2⟩ := p2 r hrk
        exact ⟨g1.trans f1, g2.trans f2, (congrFun p3 r).trans f3⟩
    · obtain ⟨f1, f2, f3, f4, f5⟩ := h2 r (by omega) hr2
      obtain ⟨g1, g2⟩ := p2 r (by omega)
      exact ⟨(congrFun p4 r).trans f1, (congrFun p5 r).trans f2, g1.trans f3, g2.trans f4, (congrFun p3 r).trans f5⟩
theorem minutes_loop {v : HouseV} (hn : WFn v) (hw : WFG v) : ∀ (m t n : Nat) (s : SightV), cyc v = t + m → m < n → (∀ r, r < 12 → SR s r (cst (Sg v r) t)) → (∀ g, g < hG v → Sight_steps s g = I ((stp v g t : Nat) : Int)) → ∃ s', Sight_measure_61 v (I ((cyc v : Nat) : Int)) n (I (t : Int)) s = some s' ∧ SOK s' v ∧ Sight_stamp s' = House_phasesStamp v := by
  have hG4 : hG v ≤ 4 := hn.2.2.2.2.2.2.1
  have hR12 : hR v ≤ 12 := hn.2.2.1
  have hc2 := cyc_le hw
  intro m
  induction m with
  | zero =>
    intro t n s hk hm h1 h2
    obtain ⟨n, rfl⟩ : ∃ q, n = q + 1 := ⟨n - 1, by omega⟩
    have htt : t = cyc v := by omega
    subst htt
    rw [Sight_measure_61, if_pos (I_le_t (by omega) (by omega) (by omega)), nmL_e]
    exact close_loop hn hw (hR v) 0 FU _ (by omega) (by unfold FU; omega) (fun r hr => absurd hr (by omega)) (fun r _ hr => h1 r hr) rfl
  | succ m ih =>
    intro t n s hk hm h1 h2
    obtain ⟨n, rfl⟩ : ∃ q, n = q + 1 := ⟨n - 1, by omega⟩
    rw [Sight_measure_61, if_neg (I_le_f (by omega) (by omega) (by omega))]
    obtain ⟨s1, e1, p1, p2, p3, p4⟩ := seeMinute_loop hn hw (t := t) (by omega) (hG v) 0 FU s (by omega) (by unfold FU; omega) (fun r hr => by rw [atK_0]; exact h1 r hr) (fun g hg => by rw [if_neg (by omega)]; exact h2 g hg)
    unfold Sight_seeMinute
    rw [show (0 : Int32) = I ((0 : Nat) : Int) from rfl, e1, bind_s, nmL_e, I_succ]
    exact ih (t + 1) n s1 (by omega) (by omega) (fun r hr => by rw [← atK_all]; exact p1 r hr) p2
theorem measure_s {v : HouseV} (hn : WFn v) (hw : WFG v) (s : SightV) : ∃ s', Sight_measure s v = some s' ∧ SOK s' v ∧ Sight_stamp s' = House_phasesStamp v := by
  have hG4 : hG v ≤ 4 := hn.2.2.2.2.2.2.1
  have hc2 := cyc_le hw
  unfold Sight_measure
  obtain ⟨f1, a1, b1⟩ := fill_s (x := 0) (N := 12) (by decide) (Sight_seen s)
  rw [a1, bind_s, nmL_e]
  obtain ⟨f2, a2, b2⟩ := fill_s (x := 0) (N := 12) (by decide) (Sight_gaps (Sight_set_seen s f1))
  rw [a2, bind_s, nmL_e]
  obtain ⟨f3, a3, b3⟩ := fill_s (x := -1) (N := 12) (by decide) (Sight_gapStarts (Sight_set_gaps (Sight_set_seen s f1) f2))
  rw [a3, bind_s, nmL_e]
  obtain ⟨f4, a4, b4⟩ := fill_s (x := -1) (N := 12) (by decide) (Sight_first (Sight_set_gapStarts (Sight_set_gaps (Sight_set_seen s f1) f2) f3))
  rw [a4, bind_s, nmL_e]
  obtain ⟨f5, a5, b5⟩ := fill_s (x := -1) (N := 12) (by decide) (Sight_last (Sight_set_first (Sight_set_gapStarts (Sight_set_gaps (Sight_set_seen s f1) f2) f3) f4))
  rw [a5, bind_s, nmL_e, nmL_e, cycleLength_s hn hw, bind_s]
  refine minutes_loop hn hw (cyc v) 0 FU _ (by omega) (by unfold FU; omega) (fun r hr => ⟨b4 r hr, b5 r hr, b2 r hr, b3 r hr, b1 r hr⟩) (fun g hg => ?_)
  show va_cpy (House_phases v) _ 0 0 4 g = _
  unfold va_cpy stp
  rw [if_pos (by omega), show 0 + (g - 0) = g by omega, (hw g hg).2.2.1, Nat.zero_add, Nat.mod_eq_of_lt (hw g hg).2.2.2]
/-! what the sightings answer -/
def late (v : HouseV) (r : Nat) : Bool := decide (gapC (Sg v r) (cyc v) = -1) || decide ((hL v r : Int) < gapC (Sg v r) (cyc v))
def WFl (v : HouseV) : Prop := ∀ r, r < 12 → House_limits v r = I (hL v r) ∧ hL v r ≤ 99
theorem isLate_s {s : SightV} {v : HouseV} (hn : WFn v) (hw : WFG v) (hl : WFl v) (hs : SOK s v) {r : Nat} (hr : r < hR v) : Sight_isLate (I (r : Int)) s v = some (late v r) := by
  have hR12 : hR v ≤ 12 := hn.2.2.1
  have hc1 := cyc_pos hw
  have hc2 := cyc_le hw
  have hgb := gapC_b (Sg v r) hc1
  obtain ⟨l1, l2⟩ := hl r (by omega)
  unfold Sight_isLate late
  rw [I_zero, if_neg (I_lt_f (by omega) (by omega) (by omega)), I12, if_neg (I_le_f (by omega) (by omega) (by omega)), gd_I (by omega) (by omega) (by omega), I_clamp r (by omega), (hs.1 r hr).1, Im1, l1]
  by_cases c1 : gapC (Sg v r) (cyc v) = -1
  · rw [if_pos (by rw [c1]), decide_eq_true c1]; rfl
  · rw [if_neg (I_ne c1 (by omega) (by omega) (by omega) (by omega)), decide_eq_false c1]
    by_cases c2 : gapC (Sg v r) (cyc v) ≤ hL v r
    · rw [if_pos (I_le_t c2 (by omega) (by omega)), decide_eq_false (by omega)]; rfl
    · rw [if_neg (I_le_f (by omega) (by omega) (by omega)), decide_eq_true (by omega)]; rfl
theorem countLate_loop {s : SightV} {v : HouseV} (hn : WFn v) (hw : WFG v) (hl : WFl v) (hs : SOK s v) : ∀ (m k n : Nat), hR v = k + m → m < n → Sight_countLate_4 s v n (I ((cnt (late v) k : Nat) : Int)) (I (k : Int)) = some (I ((cnt (late v) (hR v) : Nat) : Int)) := by
  have hR12 : hR v ≤ 12 := hn.2.2.1
  have eR : House_rooms v = I (hR v) := hn.1
  intro m
  induction m with
  | zero =>
    intro k n hk hm
    obtain ⟨n, rfl⟩ : ∃ q, n = q + 1 := ⟨n - 1, by omega⟩
    rw [Sight_countLate_4, eR, if_pos (I_le_t (by omega) (by omega) (by omega)), hk, Nat.add_zero]
  | succ m ih =>
    intro k n hk hm
    obtain ⟨n, rfl⟩ : ∃ q, n = q + 1 := ⟨n - 1, by omega⟩
    have := ih (k + 1) n (by omega) (by omega)
    rw [cnt] at this
    rw [Sight_countLate_4, eR, if_neg (I_le_f (by omega) (by omega) (by omega)), isLate_s hn hw hl hs (by omega), bind_s]
    cases hlt : late v k
    · rw [hlt, bif_f, Nat.add_zero] at this
      rw [bif_f, nmL_e, I_succ]
      exact this
    · rw [hlt, bif_t] at this
      rw [bif_t, nmL_e, nmL_e, I_succ, I_succ]
      exact this
theorem countLate_s {s : SightV} {v : HouseV} (hn : WFn v) (hw : WFG v) (hl : WFl v) (hs : SOK s v) : Sight_countLate s v = some (I ((cnt (late v) (hR v) : Nat) : Int)) := by
  have hR12 : hR v ≤ 12 := hn.2.2.1
  unfold Sight_countLate
  exact countLate_loop hn hw hl hs (hR v) 0 FU (by omega) (by unfold FU; omega)
end MEAS2

