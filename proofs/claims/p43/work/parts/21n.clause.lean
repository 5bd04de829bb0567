section CLAUSE
variable {K : KT} {T : TT} {t : ToksV} {l f e k : Nat} {v : HouseV} {m : Nat → Int32}
/-- a limit set -/
theorem setLimit_ok (hv : HOK v) (hr : RelM m v) {r a : Nat} (h : r < hR v) (ha : a ≤ 99) : ∃ w, w = House_set_limits v (upd (House_limits v) r (I (a : Int))) ∧ HOK w ∧ RelM (upd m (4 + 5 * r) (I (a : Int))) w ∧ SW w v ∧ House_walksStamp w = House_walksStamp v ∧ House_phasesStamp w = House_phasesStamp v ∧ House_walks w = House_walks v ∧ House_guards w = House_guards v ∧ House_periods w = House_periods v := by
  obtain ⟨hn, hd, hj, hl, hw, hs⟩ := hv
  have hR12 : hR v ≤ 12 := hn.2.2.1
  obtain ⟨x, hx⟩ : ∃ x, x = I (a : Int) := ⟨_, rfl⟩
  rw [← hx]
  refine ⟨_, rfl, ?_⟩
  have f1 : House_rooms (House_set_limits v (upd (House_limits v) r x)) = House_rooms v := Ho_rooms_limits _ _
  have f2 : House_doors (House_set_limits v (upd (House_limits v) r x)) = House_doors v := Ho_doors_limits _ _
  have f3 : House_guards (House_set_limits v (upd (House_limits v) r x)) = House_guards v := Ho_guards_limits _ _
  have f4 : House_minute (House_set_limits v (upd (House_limits v) r x)) = House_minute v := Ho_minute_limits _ _
  have f5 : House_openDoors (House_set_limits v (upd (House_limits v) r x)) = House_openDoors v := Ho_openDoors_limits _ _
  have f6 : House_doorFirst (House_set_limits v (upd (House_limits v) r x)) = House_doorFirst v := Ho_doorFirst_limits _ _
  have f7 : House_doorSecond (House_set_limits v (upd (House_limits v) r x)) = House_doorSecond v := Ho_doorSecond_limits _ _
  have f8 : House_limits (House_set_limits v (upd (House_limits v) r x)) = upd (House_limits v) r x := Ho_limits_limits _ _
  have f9 : House_periods (House_set_limits v (upd (House_limits v) r x)) = House_periods v := Ho_periods_limits _ _
  have f10 : House_phases (House_set_limits v (upd (House_limits v) r x)) = House_phases v := Ho_phases_limits _ _
  have f11 : House_walks (House_set_limits v (upd (House_limits v) r x)) = House_walks v := Ho_walks_limits _ _
  have f12 : House_walked (House_set_limits v (upd (House_limits v) r x)) = House_walked v := Ho_walked_limits _ _
  have f13 : House_sightings (House_set_limits v (upd (House_limits v) r x)) = House_sightings v := Ho_sightings_limits _ _
  have f14 : House_lastSeen (House_set_limits v (upd (House_limits v) r x)) = House_lastSeen v := Ho_lastSeen_limits _ _
  have f15 : House_runs (House_set_limits v (upd (House_limits v) r x)) = House_runs v := Ho_runs_limits _ _
  have f16 : House_longestRuns (House_set_limits v (upd (House_limits v) r x)) = House_longestRuns v := Ho_longestRuns_limits _ _
  have f17 : House_walksStamp (House_set_limits v (upd (House_limits v) r x)) = House_walksStamp v := Ho_walksStamp_limits _ _
  have f18 : House_phasesStamp (House_set_limits v (upd (House_limits v) r x)) = House_phasesStamp v := Ho_phasesStamp_limits _ _
  have f19 : House_joined (House_set_limits v (upd (House_limits v) r x)) = House_joined v := Ho_joined_limits _ _
  revert f1 f2 f3 f4 f5 f6 f7 f8 f9 f10 f11 f12 f13 f14 f15 f16 f17 f18 f19
  generalize House_set_limits v (upd (House_limits v) r x) = w
  intro f1 f2 f3 f4 f5 f6 f7 f8 f9 f10 f11 f12 f13 f14 f15 f16 f17 f18 f19
  have gO : hO w = hO v := by unfold hO; rw [f5]
  have gD : hD w = hD v := by unfold hD; rw [f2]
  have gG : hG w = hG v := by unfold hG; rw [f3]
  have gP : hP w = hP v := by unfold hP; rw [f9]
  refine ⟨⟨wfn_c f1 f2 f3 f4 f5 hn, wfd_c f2 f1 f6 f7 hd, wfj_c f2 f5 f6 f7 f19 hj, fun q hq => ?_, wfG_c f1 f3 f9 f10 f11 f12 hw, wfs_c f4 f13 f15 f16 f14 hs⟩, ?_, sw_c f1 f3 f9 f10 f11, f17, f18, f11, f3, f9⟩
  · by_cases c : q = r
    · have : hL w q = a := by unfold hL; rw [f8, c, upd_i, hx]; exact I_clamp a (by omega)
      rw [this, f8, c, upd_i, hx]
      exact ⟨rfl, ha⟩
    · have : hL w q = hL v q := by unfold hL; rw [f8, upd_n c]
      rw [this, f8, upd_n c]
      exact hl q hq
  · obtain ⟨a1, a2, a3, a4, a5, a6, a7⟩ := hr
    unfold RelM
    rw [gO, gD, gG, gP, f1, f2, f3, f4, f6, f7, f8, f9, f10, f11, f13, f14, f15, f16]
    rw [upd_n (by omega), upd_n (by omega), upd_n (by omega), upd_n (by omega)]
    have hD20 : hD v ≤ 20 := hn.2.2.2.2.1
    refine ⟨a1, a2, a3, a4, fun q hq => ?_, fun q hq => ?_, fun g hg => ?_⟩
    · rw [upd_n (show 5 + 5 * q ≠ 4 + 5 * r by omega), upd_n (show 6 + 5 * q ≠ 4 + 5 * r by omega), upd_n (show 7 + 5 * q ≠ 4 + 5 * r by omega), upd_n (show 8 + 5 * q ≠ 4 + 5 * r by omega)]
      by_cases c : q = r
      · rw [c, upd_i, upd_i]; exact ⟨rfl, (a5 r (by omega)).2⟩
      · rw [upd_n (show 4 + 5 * q ≠ 4 + 5 * r by omega), upd_n c]; exact a5 q hq
    · rw [upd_n (by omega), upd_n (by omega), upd_n (by omega)]
      exact a6 q hq
    · obtain ⟨b1, b2, b3⟩ := a7 g hg
      rw [upd_n (by omega), upd_n (by omega)]
      exact ⟨b1, b2, fun s hs => by rw [upd_n (by omega)]; exact b3 s hs⟩
/-- a door added -/
theorem addDoor_ok (hv : HOK v) (hr : RelM m v) (hd20 : hD v < 20) {a c : Nat} (ha : a < hR v) (hc : c < hR v) (hac : a ≠ c) (op : Bool) : ∃ w, House_addDoor (I (a : Int)) (I (c : Int)) op v = some w ∧ HOK w ∧ ∀ m' : Nat → Int32, m' 1 = I ((hD v + 1 : Nat) : Int) → m' (64 + 3 * hD v) = I (a : Int) → m' (65 + 3 * hD v) = I (c : Int) → m' (66 + 3 * hD v) = I ((bif op then 1 else 0 : Nat) : Int) → (∀ i, i < 172 → i ≠ 1 → i ≠ 64 + 3 * hD v → i ≠ 65 + 3 * hD v → i ≠ 66 + 3 * hD v → m' i = m i) → RelM m' w := by
  obtain ⟨hn, hd, hj, hl, hw, hs⟩ := hv
  have hR12 : hR v ≤ 12 := hn.2.2.1
  have eD : House_doors v = I (hD v : Int) := hn.2.2.2.1
  have hOl : hO v < 2 ^ hD v := hn.2.2.2.2.2.2.2.2.2.2
  unfold House_addDoor
  rw [eD, if_neg (neg_f (by omega)), I20, if_pos (I_lt_t (by omega) (by omega) (by omega)), gd_I (by omega) (by omega) (by omega), nmL_e, Ho_doors_doorFirst, eD, gd_I (by omega) (by omega) (by omega), nmL_e, nmL_e, I_clamp (hD v) (by omega), Ho_doorSecond_doorFirst, Ho_doors_doorSecond, Ho_doors_doorFirst, Ho_doors_doors, eD, I1, I_add, I_sub]
  obtain ⟨x, hx⟩ : ∃ x, x = I (a : Int) := ⟨_, rfl⟩
  obtain ⟨y, hy⟩ : ∃ y, y = I (c : Int) := ⟨_, rfl⟩
  obtain ⟨z, hz⟩ : ∃ z, z = I ((hD v + 1 : Nat) : Int) := ⟨_, rfl⟩
  rw [← hx, ← hy, show (hD v : Int) + 1 - 1 = (hD v : Int) by omega, show (hD v : Int) + 1 = ((hD v + 1 : Nat) : Int) by omega, ← hz]
  obtain ⟨A, hA'⟩ : ∃ A, A = upd (House_doorFirst v) (hD v) x := ⟨_, rfl⟩
  obtain ⟨B, hB'⟩ : ∃ B, B = upd (House_doorSecond v) (hD v) y := ⟨_, rfl⟩
  rw [← hA', ← hB']
  have f1 : House_rooms (House_set_doors (House_set_doorSecond (House_set_doorFirst v A) B) z) = House_rooms v := by rw [Ho_rooms_doors, Ho_rooms_doorSecond, Ho_rooms_doorFirst]
  have f2 : House_doors (House_set_doors (House_set_doorSecond (House_set_doorFirst v A) B) z) = z := Ho_doors_doors _ _
  have f3 : House_guards (House_set_doors (House_set_doorSecond (House_set_doorFirst v A) B) z) = House_guards v := by rw [Ho_guards_doors, Ho_guards_doorSecond, Ho_guards_doorFirst]
  have f4 : House_minute (House_set_doors (House_set_doorSecond (House_set_doorFirst v A) B) z) = House_minute v := by rw [Ho_minute_doors, Ho_minute_doorSecond, Ho_minute_doorFirst]
  have f5 : House_openDoors (House_set_doors (House_set_doorSecond (House_set_doorFirst v A) B) z) = House_openDoors v := by rw [Ho_openDoors_doors, Ho_openDoors_doorSecond, Ho_openDoors_doorFirst]
  have f6 : House_doorFirst (House_set_doors (House_set_doorSecond (House_set_doorFirst v A) B) z) = A := by rw [Ho_doorFirst_doors, Ho_doorFirst_doorSecond, Ho_doorFirst_doorFirst]
  have f7 : House_doorSecond (House_set_doors (House_set_doorSecond (House_set_doorFirst v A) B) z) = B := by rw [Ho_doorSecond_doors, Ho_doorSecond_doorSecond]
  have f8 : House_limits (House_set_doors (House_set_doorSecond (House_set_doorFirst v A) B) z) = House_limits v := by rw [Ho_limits_doors, Ho_limits_doorSecond, Ho_limits_doorFirst]
  have f9 : House_periods (House_set_doors (House_set_doorSecond (House_set_doorFirst v A) B) z) = House_periods v := by rw [Ho_periods_doors, Ho_periods_doorSecond, Ho_periods_doorFirst]
  have f10 : House_phases (House_set_doors (House_set_doorSecond (House_set_doorFirst v A) B) z) = House_phases v := by rw [Ho_phases_doors, Ho_phases_doorSecond, Ho_phases_doorFirst]
  have f11 : House_walks (House_set_doors (House_set_doorSecond (House_set_doorFirst v A) B) z) = House_walks v := by rw [Ho_walks_doors, Ho_walks_doorSecond, Ho_walks_doorFirst]
  have f12 : House_walked (House_set_doors (House_set_doorSecond (House_set_doorFirst v A) B) z) = House_walked v := by rw [Ho_walked_doors, Ho_walked_doorSecond, Ho_walked_doorFirst]
  have f13 : House_sightings (House_set_doors (House_set_doorSecond (House_set_doorFirst v A) B) z) = House_sightings v := by rw [Ho_sightings_doors, Ho_sightings_doorSecond, Ho_sightings_doorFirst]
  have f14 : House_lastSeen (House_set_doors (House_set_doorSecond (House_set_doorFirst v A) B) z) = House_lastSeen v := by rw [Ho_lastSeen_doors, Ho_lastSeen_doorSecond, Ho_lastSeen_doorFirst]
  have f15 : House_runs (House_set_doors (House_set_doorSecond (House_set_doorFirst v A) B) z) = House_runs v := by rw [Ho_runs_doors, Ho_runs_doorSecond, Ho_runs_doorFirst]
  have f16 : House_longestRuns (House_set_doors (House_set_doorSecond (House_set_doorFirst v A) B) z) = House_longestRuns v := by rw [Ho_longestRuns_doors, Ho_longestRuns_doorSecond, Ho_longestRuns_doorFirst]
  have f19 : House_joined (House_set_doors (House_set_doorSecond (House_set_doorFirst v A) B) z) = House_joined v := by rw [Ho_joined_doors, Ho_joined_doorSecond, Ho_joined_doorFirst]
  revert f1 f2 f3 f4 f5 f6 f7 f8 f9 f10 f11 f12 f13 f14 f15 f16 f19
  generalize House_set_doors (House_set_doorSecond (House_set_doorFirst v A) B) z = w
  intro f1 f2 f3 f4 f5 f6 f7 f8 f9 f10 f11 f12 f13 f14 f15 f16 f19
  have gR : hR w = hR v := by unfold hR; rw [f1]
  have gM : hM w = hM v := by unfold hM; rw [f4]
  have gO : hO w = hO v := by unfold hO; rw [f5]
  have gD : hD w = hD v + 1 := by unfold hD; rw [f2, hz]; exact I_clamp (hD v + 1) (by omega)
  have gG : hG w = hG v := by unfold hG; rw [f3]
  have gP : hP w = hP v := by unfold hP; rw [f9]
  have gAn : ∀ d, d < hD v → hA w d = hA v d := fun d hd => by unfold hA; rw [f6, hA', upd_n (by omega)]
  have gBn : ∀ d, d < hD v → hB w d = hB v d := fun d hd => by unfold hB; rw [f7, hB', upd_n (by omega)]
  have gAi : hA w (hD v) = a := by unfold hA; rw [f6, hA', upd_i, hx]; exact I_clamp a (by omega)
  have gBi : hB w (hD v) = c := by unfold hB; rw [f7, hB', upd_i, hy]; exact I_clamp c (by omega)
  have hbit : (hO v).testBit (hD v) = false := Nat.testBit_lt_two_pow hOl
  have hnw : WFn w := by
    obtain ⟨a1, a2, a3, a4, a5, a6, a7, a8, a9, a10, a11⟩ := hn
    unfold WFn
    rw [gO, gD, gG, gR, gM, f1, f2, f3, f4, f5]
    exact ⟨a1, a2, a3, hz, by omega, a6, a7, a8, a9, a10, Nat.lt_of_lt_of_le a11 (Nat.pow_le_pow_right (by omega) (by omega))⟩
  have hdw : WFd w := by
    intro d hd'
    rw [gD] at hd'
    rw [gR, f6, f7, hA', hB']
    by_cases q : d = hD v
    · rw [q, gAi, gBi, upd_i, upd_i]
      exact ⟨hx, ha, hy, hc, hac⟩
    · rw [gAn d (by omega), gBn d (by omega), upd_n q, upd_n q]
      exact hd d (by omega)
  have hjw : WFj w := by
    intro r hr
    rw [f19, hj r hr]
    have : jm w r = jm v r := by
      unfold jm
      rw [gD, ors]
      have h0 : dj w r (hD v) = 0 := by
        unfold dj opn
        rw [gO, hbit, bif_f]
      rw [h0, Nat.or_zero]
      exact ors_congr fun d hd' => by
        unfold dj opn
        rw [gO, gAn d hd', gBn d hd']
    rw [this]
  have hok : HOK w := ⟨hnw, hdw, hjw, wfl_c f8 hl, wfG_c f1 f3 f9 f10 f11 f12 hw, wfs_c f4 f13 f15 f16 f14 hs⟩
  have hrel : RelM (upd (upd (upd (upd m 1 z) (64 + 3 * hD v) x) (65 + 3 * hD v) y) (66 + 3 * hD v) (I ((0 : Nat) : Int))) w := by
    obtain ⟨a1, a2, a3, a4, a5, a6, a7⟩ := hr
    have hG4 : hG v ≤ 4 := hn.2.2.2.2.2.2.1
    have ev : ∀ i, i ≠ 1 → i ≠ 64 + 3 * hD v → i ≠ 65 + 3 * hD v → i ≠ 66 + 3 * hD v → upd (upd (upd (upd m 1 z) (64 + 3 * hD v) x) (65 + 3 * hD v) y) (66 + 3 * hD v) (I ((0 : Nat) : Int)) i = m i := fun i h1 h2 h3 h4 => by rw [upd_n h4, upd_n h3, upd_n h2, upd_n h1]
    unfold RelM
    rw [gO, gD, gG, gP, f1, f2, f3, f4, f6, f7, f8, f9, f10, f11, f13, f14, f15, f16]
    rw [ev 0 (by omega) (by omega) (by omega) (by omega), ev 2 (by omega) (by omega) (by omega) (by omega), ev 3 (by omega) (by omega) (by omega) (by omega)]
    refine ⟨a1, ?_, a3, a4, fun q hq => ?_, fun q hq => ?_, fun g hg => ?_⟩
    · rw [upd_n (by omega), upd_n (by omega), upd_n (by omega), upd_i]
    · rw [ev _ (by omega) (by omega) (by omega) (by omega), ev _ (by omega) (by omega) (by omega) (by omega), ev _ (by omega) (by omega) (by omega) (by omega), ev _ (by omega) (by omega) (by omega) (by omega), ev _ (by omega) (by omega) (by omega) (by omega)]
      exact a5 q hq
    · by_cases c : q = hD v
      · rw [c, hbit, bif_f, hA', hB', upd_i (f := House_doorFirst v), upd_i (f := House_doorSecond v)]
        refine ⟨?_, ?_, ?_⟩
        · rw [upd_n (by omega), upd_n (by omega), upd_i]
        · rw [upd_n (by omega), upd_i]
        · rw [upd_i]
      · rw [ev _ (by omega) (by omega) (by omega) (by omega), ev _ (by omega) (by omega) (by omega) (by omega), ev _ (by omega) (by omega) (by omega) (by omega), hA', hB', upd_n c, upd_n c]
        exact a6 q (by omega)
    · obtain ⟨b1, b2, b3⟩ := a7 g hg
      rw [ev _ (by omega) (by omega) (by omega) (by omega), ev _ (by omega) (by omega) (by omega) (by omega)]
      exact ⟨b1, b2, fun s hs => by rw [ev _ (by omega) (by omega) (by omega) (by omega)]; exact b3 s hs⟩
  obtain ⟨w', s1, s2, s3, -⟩ := setDoor hok hrel (d := hD v) (by omega) op
  rw [s1, bind_s]
  refine ⟨w', rfl, s2, fun m' m1 m2 m3 m4 m5 => rel_ext s2.1 s2.2.2.2.2.1 (fun i hi => ?_) s3⟩
  by_cases c4 : i = 66 + 3 * hD v
  · rw [c4, upd_i, m4]
  · rw [upd_n c4, upd_n c4]
    by_cases c3 : i = 65 + 3 * hD v
    · rw [c3, upd_i, m3, hy]
    · rw [upd_n c3]
      by_cases c2 : i = 64 + 3 * hD v
      · rw [c2, upd_i, m2, hx]
      · rw [upd_n c2]
        by_cases c1 : i = 1
        · rw [c1, upd_i, m1, hz]
        · rw [upd_n c1]
          exact m5 i hi c1 c2 c3 c4
end CLAUSE

