section DRAFT
/-- the row of a guard -/
def rowM (m : Nat → Int32) (v : HouseV) (g : Nat) : Prop := m (124 + 12 * g) = House_periods v g ∧ m (125 + 12 * g) = House_phases v g ∧ ∀ s, s < hP v g → m (126 + 12 * g + s) = House_walks v (10 * g + s)
/-- all but the row of the guard g -/
def BR (m : Nat → Int32) (v : HouseV) (g : Nat) : Prop := m 0 = House_rooms v ∧ m 1 = House_doors v ∧ m 3 = House_minute v ∧ (∀ r, r < 12 → m (4 + 5 * r) = House_limits v r ∧ m (5 + 5 * r) = House_sightings v r ∧ m (6 + 5 * r) = House_lastSeen v r ∧ m (7 + 5 * r) = House_runs v r ∧ m (8 + 5 * r) = House_longestRuns v r) ∧ (∀ d, d < hD v → m (64 + 3 * d) = House_doorFirst v d ∧ m (65 + 3 * d) = House_doorSecond v d ∧ m (66 + 3 * d) = I ((bif (hO v).testBit d then 1 else 0 : Nat) : Int)) ∧ ∀ g', g' < hG v → g' ≠ g → rowM m v g'
def BW (v : HouseV) (g : Nat) : Prop := WFn v ∧ WFd v ∧ WFj v ∧ WFl v ∧ WFs v ∧ ∀ g', g' < hG v → g' ≠ g → WFg v g'
def GU (w v : HouseV) (g : Nat) : Prop := House_rooms w = House_rooms v ∧ House_doors w = House_doors v ∧ House_guards w = House_guards v ∧ House_minute w = House_minute v ∧ House_openDoors w = House_openDoors v ∧ House_doorFirst w = House_doorFirst v ∧ House_doorSecond w = House_doorSecond v ∧ House_joined w = House_joined v ∧ House_limits w = House_limits v ∧ House_sightings w = House_sightings v ∧ House_lastSeen w = House_lastSeen v ∧ House_runs w = House_runs v ∧ House_longestRuns w = House_longestRuns v ∧ ∀ g', g' ≠ g → House_periods w g' = House_periods v g' ∧ House_phases w g' = House_phases v g' ∧ House_walked w g' = House_walked v g' ∧ ∀ s, s < 10 → House_walks w (10 * g' + s) = House_walks v (10 * g' + s)
/-- rows alike but for the guard g -/
def AO (m' m : Nat → Int32) (g : Nat) : Prop := ∀ i, (i < 124 + 12 * g ∨ 136 + 12 * g ≤ i) → m' i = m i
variable {v w u : HouseV} {g : Nat} {m m' m'' : Nat → Int32}
theorem GU.refl (v : HouseV) (g : Nat) : GU v v g := ⟨rfl, rfl, rfl, rfl, rfl, rfl, rfl, rfl, rfl, rfl, rfl, rfl, rfl, fun _ _ => ⟨rfl, rfl, rfl, fun _ _ => rfl⟩⟩
theorem GU.trans (h : GU u w g) (k : GU w v g) : GU u v g := by
  obtain ⟨a1, a2, a3, a4, a5, a6, a7, a8, a9, a10, a11, a12, a13, a14⟩ := h
  obtain ⟨b1, b2, b3, b4, b5, b6, b7, b8, b9, b10, b11, b12, b13, b14⟩ := k
  refine ⟨a1.trans b1, a2.trans b2, a3.trans b3, a4.trans b4, a5.trans b5, a6.trans b6, a7.trans b7, a8.trans b8, a9.trans b9, a10.trans b10, a11.trans b11, a12.trans b12, a13.trans b13, fun g' hg => ?_⟩
  obtain ⟨c1, c2, c3, c4⟩ := a14 g' hg
  obtain ⟨d1, d2, d3, d4⟩ := b14 g' hg
  exact ⟨c1.trans d1, c2.trans d2, c3.trans d3, fun s hs => (c4 s hs).trans (d4 s hs)⟩
theorem AO.refl (m : Nat → Int32) (g : Nat) : AO m m g := fun _ _ => rfl
theorem AO.trans (h : AO m'' m' g) (k : AO m' m g) : AO m'' m g := fun i hi => (h i hi).trans (k i hi)
theorem AO.upd (h : AO m' m g) {i : Nat} (hi : 124 + 12 * g ≤ i) (hj : i < 136 + 12 * g) (x : Int32) : AO (upd m' i x) m g := fun j hj => by
  rw [upd_n (by omega)]
  exact h j hj
theorem GU.R (h : GU w v g) : hR w = hR v := by unfold hR; rw [h.1]
theorem GU.D (h : GU w v g) : hD w = hD v := by unfold hD; rw [h.2.1]
theorem GU.G (h : GU w v g) : hG w = hG v := by unfold hG; rw [h.2.2.1]
theorem GU.O (h : GU w v g) : hO w = hO v := by unfold hO; rw [h.2.2.2.2.1]
theorem GU.P (h : GU w v g) {g' : Nat} (hg : g' ≠ g) : hP w g' = hP v g' := by unfold hP; rw [(h.2.2.2.2.2.2.2.2.2.2.2.2.2 g' hg).1]
theorem GU.bw (h : GU w v g) (b : BW v g) : BW w g := by
  obtain ⟨b1, b2, b3, b4, b5, b6⟩ := b
  have hh := h
  obtain ⟨a1, a2, a3, a4, a5, a6, a7, a8, a9, a10, a11, a12, a13, a14⟩ := h
  refine ⟨wfn_c a1 a2 a3 a4 a5 b1, wfd_c a2 a1 a6 a7 b2, wfj_c a2 a5 a6 a7 a8 b3, wfl_c a9 b4, wfs_c a4 a10 a12 a13 a11 b5, fun g' hg hne => ?_⟩
  rw [hh.G] at hg
  obtain ⟨⟨c1, c2, c3, c4, c5⟩, c6, c7, c8⟩ := b6 g' hg hne
  obtain ⟨d1, d2, d3, d4⟩ := a14 g' hne
  have eP := hh.P hne
  have eF : hF w g' = hF v g' := by unfold hF; rw [d2]
  have eK : hK w g' = hK v g' := by unfold hK; rw [d3]
  have eW : ∀ s, s < hP v g' → hW w g' s = hW v g' s := fun s hs => by unfold hW; rw [d4 s (by omega)]
  unfold WFg WFw
  rw [eP, eF, eK, d1, d2, d3, hh.R]
  refine ⟨⟨c1, c2, fun s hs => ?_, c4, ?_⟩, c6, c7, c8⟩
  · rw [d4 s (by omega), eW s hs]
    exact c3 s hs
  · rw [c5]
    exact ors_congr fun s hs => by rw [eW s hs]
theorem GU.br (h : GU w v g) (b : BW v g) (hm : AO m' m g) (r : BR m v g) (hg : g < 4) : BR m' w g := by
  have hh := h
  obtain ⟨b1, b2, b3, b4, b5, b6⟩ := b
  obtain ⟨a1, a2, a3, a4, a5, a6, a7, a8, a9, a10, a11, a12, a13, a14⟩ := h
  obtain ⟨r1, r2, r3, r4, r5, r6⟩ := r
  have hD20 : hD v ≤ 20 := b1.2.2.2.2.1
  have hG4 : hG v ≤ 4 := b1.2.2.2.2.2.2.1
  unfold BR
  rw [hh.D, hh.G, hh.O, a1, a2, a4, a6, a7, a9, a10, a11, a12, a13, hm 0 (by omega), hm 1 (by omega), hm 3 (by omega)]
  refine ⟨r1, r2, r3, fun i hi => ?_, fun d hd => ?_, fun g' hg hne => ?_⟩
  · rw [hm _ (by omega), hm _ (by omega), hm _ (by omega), hm _ (by omega), hm _ (by omega)]
    exact r4 i hi
  · rw [hm _ (by omega), hm _ (by omega), hm _ (by omega)]
    exact r5 d hd
  · obtain ⟨s1, s2, s3⟩ := r6 g' hg hne
    obtain ⟨d1, d2, d3, d4⟩ := a14 g' hne
    have hP10 := (b6 g' hg hne).1.2.1
    unfold rowM
    rw [hh.P hne, d1, d2, hm _ (by omega), hm _ (by omega)]
    refine ⟨s1, s2, fun s hs => ?_⟩
    rw [hm _ (by omega), d4 s (by omega)]
    exact s3 s hs
theorem rel_br (hr : RelM m v) (g : Nat) : BR m v g := by
  obtain ⟨a1, a2, a3, a4, a5, a6, a7⟩ := hr
  exact ⟨a1, a2, a4, a5, a6, fun g' hg _ => a7 g' hg⟩
theorem br_rel (b : BW v g) (h : BR m v g) (hr : rowM m v g) (hw : WFw v g) (hm : ∀ i, i < 172 → i ≠ 2 → m' i = m i) (h2 : m' 2 = House_guards v) : RelM m' v := by
  obtain ⟨b1, b2, b3, b4, b5, b6⟩ := b
  obtain ⟨r1, r2, r3, r4, r5, r6⟩ := h
  have hD20 : hD v ≤ 20 := b1.2.2.2.2.1
  have hG4 : hG v ≤ 4 := b1.2.2.2.2.2.2.1
  unfold RelM
  rw [hm 0 (by omega) (by omega), hm 1 (by omega) (by omega), hm 3 (by omega) (by omega)]
  refine ⟨r1, r2, h2, r3, fun i hi => ?_, fun d hd => ?_, fun g' hg => ?_⟩
  · rw [hm _ (by omega) (by omega), hm _ (by omega) (by omega), hm _ (by omega) (by omega), hm _ (by omega) (by omega), hm _ (by omega) (by omega)]
    exact r4 i hi
  · rw [hm _ (by omega) (by omega), hm _ (by omega) (by omega), hm _ (by omega) (by omega)]
    exact r5 d hd
  · have hrow : rowM m v g' ∧ hP v g' ≤ 10 := by
      by_cases c : g' = g
      · rw [c]; exact ⟨hr, hw.2.1⟩
      · exact ⟨r6 g' hg c, (b6 g' hg c).1.2.1⟩
    obtain ⟨⟨s1, s2, s3⟩, h10⟩ := hrow
    rw [hm _ (by omega) (by omega), hm _ (by omega) (by omega)]
    exact ⟨s1, s2, fun s hs => by rw [hm _ (by omega) (by omega)]; exact s3 s hs⟩
/-! the walk of a guard -/
theorem hasG (b : BW v g) (hg : g < hG v) : House_hasGuard (I (g : Int)) v = some true := by
  have hG4 : hG v ≤ 4 := b.1.2.2.2.2.2.2.1
  rw [hasGuard_s b.1 (by omega) (by omega), decide_eq_true (by omega)]
theorem emptyWalk_s (b : BW v g) (hg : g < hG v) : ∃ w, House_emptyWalk (I (g : Int)) v = some w ∧ GU w v g ∧ House_periods w g = I ((0 : Nat) : Int) ∧ House_phases w g = I ((0 : Nat) : Int) ∧ House_walked w g = I ((0 : Nat) : Int) := by
  have hG4 : hG v ≤ 4 := b.1.2.2.2.2.2.2.1
  unfold House_emptyWalk
  rw [hasG b hg, bind_s, bif_t, gd_I (by omega) (by omega) (by omega), I_clamp g (by omega)]
  simp only [nmL_e]
  refine ⟨_, rfl, ⟨?_, ?_, ?_, ?_, ?_, ?_, ?_, ?_, ?_, ?_, ?_, ?_, ?_, fun g' hne => ⟨?_, ?_, ?_, fun s hs => ?_⟩⟩, ?_, ?_, ?_⟩
  · rw [Ho_rooms_walked, Ho_rooms_phases, Ho_rooms_periods]
  · rw [Ho_doors_walked, Ho_doors_phases, Ho_doors_periods]
  · rw [Ho_guards_walked, Ho_guards_phases, Ho_guards_periods]
  · rw [Ho_minute_walked, Ho_minute_phases, Ho_minute_periods]
  · rw [Ho_openDoors_walked, Ho_openDoors_phases, Ho_openDoors_periods]
  · rw [Ho_doorFirst_walked, Ho_doorFirst_phases, Ho_doorFirst_periods]
  · rw [Ho_doorSecond_walked, Ho_doorSecond_phases, Ho_doorSecond_periods]
  · rw [Ho_joined_walked, Ho_joined_phases, Ho_joined_periods]
  · rw [Ho_limits_walked, Ho_limits_phases, Ho_limits_periods]
  · rw [Ho_sightings_walked, Ho_sightings_phases, Ho_sightings_periods]
  · rw [Ho_lastSeen_walked, Ho_lastSeen_phases, Ho_lastSeen_periods]
  · rw [Ho_runs_walked, Ho_runs_phases, Ho_runs_periods]
  · rw [Ho_longestRuns_walked, Ho_longestRuns_phases, Ho_longestRuns_periods]
  · rw [Ho_periods_walked, Ho_periods_phases, Ho_periods_periods, upd_n hne]
  · rw [Ho_phases_walked, Ho_phases_phases, Ho_phases_periods, upd_n hne]
  · rw [Ho_walked_walked, Ho_walked_phases, Ho_walked_periods, upd_n hne]
  · rw [Ho_walks_walked, Ho_walks_phases, Ho_walks_periods]
  · rw [Ho_periods_walked, Ho_periods_phases, Ho_periods_periods, upd_i]; rfl
  · rw [Ho_phases_walked, Ho_phases_phases, upd_i]; rfl
  · rw [Ho_walked_walked, upd_i]; rfl
end DRAFT

