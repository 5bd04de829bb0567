section COPY
theorem cpy_i {f g : Nat → Int32} {i n : Nat} (h : i < n) : va_cpy f g 0 0 n i = f i := by
  unfold va_cpy
  rw [if_pos (by omega), show 0 + (i - 0) = i by omega]
/-- w is a copy of v -/
def HC (w v : HouseV) : Prop := House_rooms w = House_rooms v ∧ House_doors w = House_doors v ∧ House_guards w = House_guards v ∧ House_minute w = House_minute v ∧ House_openDoors w = House_openDoors v ∧ House_walksStamp w = House_walksStamp v ∧ House_phasesStamp w = House_phasesStamp v ∧
  (∀ i, i < 20 → House_doorFirst w i = House_doorFirst v i ∧ House_doorSecond w i = House_doorSecond v i) ∧
  (∀ i, i < 12 → House_joined w i = House_joined v i ∧ House_limits w i = House_limits v i ∧ House_sightings w i = House_sightings v i ∧ House_lastSeen w i = House_lastSeen v i ∧ House_runs w i = House_runs v i ∧ House_longestRuns w i = House_longestRuns v i) ∧
  (∀ i, i < 4 → House_periods w i = House_periods v i ∧ House_phases w i = House_phases v i ∧ House_walked w i = House_walked v i) ∧
  (∀ i, i < 40 → House_walks w i = House_walks v i)
theorem copyFrom_s (w v : HouseV) : ∃ w', House_copyFrom w v = some w' ∧ HC w' v := by
  unfold House_copyFrom
  simp only [nmL_e]
  refine ⟨_, rfl, ?_, ?_, ?_, ?_, ?_, ?_, ?_, fun i hi => ⟨?_, ?_⟩, fun i hi => ⟨?_, ?_, ?_, ?_, ?_, ?_⟩, fun i hi => ⟨?_, ?_, ?_⟩, fun i hi => ?_⟩
  · rw [Ho_rooms_longestRuns, Ho_rooms_runs, Ho_rooms_lastSeen, Ho_rooms_sightings, Ho_rooms_walked, Ho_rooms_walks, Ho_rooms_phases, Ho_rooms_periods, Ho_rooms_limits, Ho_rooms_joined, Ho_rooms_doorSecond, Ho_rooms_doorFirst, Ho_rooms_phasesStamp, Ho_rooms_walksStamp, Ho_rooms_openDoors, Ho_rooms_minute, Ho_rooms_guards, Ho_rooms_doors, Ho_rooms_rooms]
  · rw [Ho_doors_longestRuns, Ho_doors_runs, Ho_doors_lastSeen, Ho_doors_sightings, Ho_doors_walked, Ho_doors_walks, Ho_doors_phases, Ho_doors_periods, Ho_doors_limits, Ho_doors_joined, Ho_doors_doorSecond, Ho_doors_doorFirst, Ho_doors_phasesStamp, Ho_doors_walksStamp, Ho_doors_openDoors, Ho_doors_minute, Ho_doors_guards, Ho_doors_doors]
  · rw [Ho_guards_longestRuns, Ho_guards_runs, Ho_guards_lastSeen, Ho_guards_sightings, Ho_guards_walked, Ho_guards_walks, Ho_guards_phases, Ho_guards_periods, Ho_guards_limits, Ho_guards_joined, Ho_guards_doorSecond, Ho_guards_doorFirst, Ho_guards_phasesStamp, Ho_guards_walksStamp, Ho_guards_openDoors, Ho_guards_minute, Ho_guards_guards]
  · rw [Ho_minute_longestRuns, Ho_minute_runs, Ho_minute_lastSeen, Ho_minute_sightings, Ho_minute_walked, Ho_minute_walks, Ho_minute_phases, Ho_minute_periods, Ho_minute_limits, Ho_minute_joined, Ho_minute_doorSecond, Ho_minute_doorFirst, Ho_minute_phasesStamp, Ho_minute_walksStamp, Ho_minute_openDoors, Ho_minute_minute]
  · rw [Ho_openDoors_longestRuns, Ho_openDoors_runs, Ho_openDoors_lastSeen, Ho_openDoors_sightings, Ho_openDoors_walked, Ho_openDoors_walks, Ho_openDoors_phases, Ho_openDoors_periods, Ho_openDoors_limits, Ho_openDoors_joined, Ho_openDoors_doorSecond, Ho_openDoors_doorFirst, Ho_openDoors_phasesStamp, Ho_openDoors_walksStamp, Ho_openDoors_openDoors]
  · rw [Ho_walksStamp_longestRuns, Ho_walksStamp_runs, Ho_walksStamp_lastSeen, Ho_walksStamp_sightings, Ho_walksStamp_walked, Ho_walksStamp_walks, Ho_walksStamp_phases, Ho_walksStamp_periods, Ho_walksStamp_limits, Ho_walksStamp_joined, Ho_walksStamp_doorSecond, Ho_walksStamp_doorFirst, Ho_walksStamp_phasesStamp, Ho_walksStamp_walksStamp]
  · rw [Ho_phasesStamp_longestRuns, Ho_phasesStamp_runs, Ho_phasesStamp_lastSeen, Ho_phasesStamp_sightings, Ho_phasesStamp_walked, Ho_phasesStamp_walks, Ho_phasesStamp_phases, Ho_phasesStamp_periods, Ho_phasesStamp_limits, Ho_phasesStamp_joined, Ho_phasesStamp_doorSecond, Ho_phasesStamp_doorFirst, Ho_phasesStamp_phasesStamp]
  · rw [Ho_doorFirst_longestRuns, Ho_doorFirst_runs, Ho_doorFirst_lastSeen, Ho_doorFirst_sightings, Ho_doorFirst_walked, Ho_doorFirst_walks, Ho_doorFirst_phases, Ho_doorFirst_periods, Ho_doorFirst_limits, Ho_doorFirst_joined, Ho_doorFirst_doorSecond, Ho_doorFirst_doorFirst]; exact cpy_i hi
  · rw [Ho_doorSecond_longestRuns, Ho_doorSecond_runs, Ho_doorSecond_lastSeen, Ho_doorSecond_sightings, Ho_doorSecond_walked, Ho_doorSecond_walks, Ho_doorSecond_phases, Ho_doorSecond_periods, Ho_doorSecond_limits, Ho_doorSecond_joined, Ho_doorSecond_doorSecond]; exact cpy_i hi
  · rw [Ho_joined_longestRuns, Ho_joined_runs, Ho_joined_lastSeen, Ho_joined_sightings, Ho_joined_walked, Ho_joined_walks, Ho_joined_phases, Ho_joined_periods, Ho_joined_limits, Ho_joined_joined]; exact cpy_i hi
  · rw [Ho_limits_longestRuns, Ho_limits_runs, Ho_limits_lastSeen, Ho_limits_sightings, Ho_limits_walked, Ho_limits_walks, Ho_limits_phases, Ho_limits_periods, Ho_limits_limits]; exact cpy_i hi
  · rw [Ho_sightings_longestRuns, Ho_sightings_runs, Ho_sightings_lastSeen, Ho_sightings_sightings]; exact cpy_i hi
  · rw [Ho_lastSeen_longestRuns, Ho_lastSeen_runs, Ho_lastSeen_lastSeen]; exact cpy_i hi
  · rw [Ho_runs_longestRuns, Ho_runs_runs]; exact cpy_i hi
  · rw [Ho_longestRuns_longestRuns]; exact cpy_i hi
  · rw [Ho_periods_longestRuns, Ho_periods_runs, Ho_periods_lastSeen, Ho_periods_sightings, Ho_periods_walked, Ho_periods_walks, Ho_periods_phases, Ho_periods_periods]; exact cpy_i hi
  · rw [Ho_phases_longestRuns, Ho_phases_runs, Ho_phases_lastSeen, Ho_phases_sightings, Ho_phases_walked, Ho_phases_walks, Ho_phases_phases]; exact cpy_i hi
  · rw [Ho_walked_longestRuns, Ho_walked_runs, Ho_walked_lastSeen, Ho_walked_sightings, Ho_walked_walked]; exact cpy_i hi
  · rw [Ho_walks_longestRuns, Ho_walks_runs, Ho_walks_lastSeen, Ho_walks_sightings, Ho_walks_walked, Ho_walks_walks]; exact cpy_i hi
theorem HC.refl (v : HouseV) : HC v v := ⟨rfl, rfl, rfl, rfl, rfl, rfl, rfl, fun _ _ => ⟨rfl, rfl⟩, fun _ _ => ⟨rfl, rfl, rfl, rfl, rfl, rfl⟩, fun _ _ => ⟨rfl, rfl, rfl⟩, fun _ _ => rfl⟩
/-- what has passed in the rooms -/
def WFs (v : HouseV) : Prop := ∀ r, r < 12 → ∃ a b c : Nat, ∃ d : Int, House_sightings v r = I (a : Int) ∧ a ≤ hM v ∧ House_runs v r = I (b : Int) ∧ b ≤ hM v ∧ House_longestRuns v r = I (c : Int) ∧ c ≤ hM v ∧ House_lastSeen v r = I d ∧ -1 ≤ d ∧ d < hM v
/-- a house that is well -/
def HOK (v : HouseV) : Prop := WFn v ∧ WFd v ∧ WFj v ∧ WFl v ∧ WFG v ∧ WFs v
section
variable {w v : HouseV}
theorem hc_R (h : HC w v) : hR w = hR v := by unfold hR; rw [h.1]
theorem hc_D (h : HC w v) : hD w = hD v := by unfold hD; rw [h.2.1]
theorem hc_G (h : HC w v) : hG w = hG v := by unfold hG; rw [h.2.2.1]
theorem hc_M (h : HC w v) : hM w = hM v := by unfold hM; rw [h.2.2.2.1]
theorem hc_O (h : HC w v) : hO w = hO v := by unfold hO; rw [h.2.2.2.2.1]
theorem hc_A (h : HC w v) {d : Nat} (hd : d < 20) : hA w d = hA v d := by unfold hA; rw [(h.2.2.2.2.2.2.2.1 d hd).1]
theorem hc_B (h : HC w v) {d : Nat} (hd : d < 20) : hB w d = hB v d := by unfold hB; rw [(h.2.2.2.2.2.2.2.1 d hd).2]
theorem hc_L (h : HC w v) {r : Nat} (hr : r < 12) : hL w r = hL v r := by unfold hL; rw [(h.2.2.2.2.2.2.2.2.1 r hr).2.1]
theorem hc_P (h : HC w v) {g : Nat} (hg : g < 4) : hP w g = hP v g := by unfold hP; rw [(h.2.2.2.2.2.2.2.2.2.1 g hg).1]
theorem hc_F (h : HC w v) {g : Nat} (hg : g < 4) : hF w g = hF v g := by unfold hF; rw [(h.2.2.2.2.2.2.2.2.2.1 g hg).2.1]
theorem hc_K (h : HC w v) {g : Nat} (hg : g < 4) : hK w g = hK v g := by unfold hK; rw [(h.2.2.2.2.2.2.2.2.2.1 g hg).2.2]
theorem hc_W (h : HC w v) {g s : Nat} (hg : g < 4) (hs : s < 10) : hW w g s = hW v g s := by unfold hW; rw [h.2.2.2.2.2.2.2.2.2.2 (10 * g + s) (by omega)]
theorem hc_n (h : HC w v) (hn : WFn v) : WFn w := by
  obtain ⟨a1, a2, a3, a4, a5, a6, a7, a8, a9, a10, a11⟩ := hn
  unfold WFn
  rw [hc_R h, hc_D h, hc_G h, hc_M h, hc_O h, h.1, h.2.1, h.2.2.1, h.2.2.2.1, h.2.2.2.2.1]
  exact ⟨a1, a2, a3, a4, a5, a6, a7, a8, a9, a10, a11⟩
theorem hc_wfd (h : HC w v) (hn : WFn v) (hd : WFd v) : WFd w := by
  intro d hdl
  rw [hc_D h] at hdl
  have h20 : d < 20 := Nat.lt_of_lt_of_le hdl hn.2.2.2.2.1
  obtain ⟨a1, a2, a3, a4, a5⟩ := hd d hdl
  rw [hc_A h h20, hc_B h h20, hc_R h, (h.2.2.2.2.2.2.2.1 d h20).1, (h.2.2.2.2.2.2.2.1 d h20).2]
  exact ⟨a1, a2, a3, a4, a5⟩
theorem hc_jm (h : HC w v) (hn : WFn v) (r : Nat) : jm w r = jm v r := by
  unfold jm
  rw [hc_D h]
  refine ors_congr fun d hd => ?_
  have h20 : d < 20 := Nat.lt_of_lt_of_le hd hn.2.2.2.2.1
  unfold dj opn
  rw [hc_O h, hc_A h h20, hc_B h h20]
theorem hc_wfj (h : HC w v) (hn : WFn v) (hj : WFj v) : WFj w := by
  intro r hr
  rw [hc_jm h hn, (h.2.2.2.2.2.2.2.2.1 r hr).1]
  exact hj r hr
theorem hc_wfl (h : HC w v) (hl : WFl v) : WFl w := by
  intro r hr
  rw [hc_L h hr, (h.2.2.2.2.2.2.2.2.1 r hr).2.1]
  exact hl r hr
theorem hc_wfg (h : HC w v) {g : Nat} (hg4 : g < 4) (hg : WFg v g) : WFg w g := by
  obtain ⟨⟨a1, a2, a3, a4, a5⟩, a6, a7, a8⟩ := hg
  obtain ⟨e1, e2, e3⟩ := h.2.2.2.2.2.2.2.2.2.1 g hg4
  unfold WFg WFw
  rw [hc_P h hg4, hc_F h hg4, hc_K h hg4, hc_R h, e1, e2, e3]
  refine ⟨⟨a1, a2, fun s hs => ?_, a4, ?_⟩, a6, a7, a8⟩
  · rw [hc_W h hg4 (by omega), h.2.2.2.2.2.2.2.2.2.2 (10 * g + s) (by omega)]
    exact a3 s hs
  · rw [a5]
    exact ors_congr fun s hs => by rw [hc_W h hg4 (by omega)]
theorem hc_wfG (h : HC w v) (hn : WFn v) (hw : WFG v) : WFG w := by
  intro g hg
  rw [hc_G h] at hg
  exact hc_wfg h (Nat.lt_of_lt_of_le hg hn.2.2.2.2.2.2.1) (hw g hg)
theorem hc_wfs (h : HC w v) (hs : WFs v) : WFs w := by
  intro r hr
  obtain ⟨e1, e2, e3, e4, e5, e6⟩ := h.2.2.2.2.2.2.2.2.1 r hr
  rw [hc_M h, e3, e4, e5, e6]
  exact hs r hr
theorem hc_ok (h : HC w v) (hv : HOK v) : HOK w := ⟨hc_n h hv.1, hc_wfd h hv.1 hv.2.1, hc_wfj h hv.1 hv.2.2.1, hc_wfl h hv.2.2.2.1, hc_wfG h hv.1 hv.2.2.2.2.1, hc_wfs h hv.2.2.2.2.2⟩
theorem hc_sw (h : HC w v) (hn : WFn v) (hw : WFG v) : SW w v := by
  refine ⟨hc_R h, hc_G h, fun g hg => ?_⟩
  rw [hc_G h] at hg
  have hg4 : g < 4 := Nat.lt_of_lt_of_le hg hn.2.2.2.2.2.2.1
  have hp := hw.per g hg
  refine ⟨hc_P h hg4, fun t => ?_⟩
  unfold place
  rw [hc_P h hg4, hc_F h hg4]
  have : (t % hP v g + hF v g) % hP v g < hP v g := Nat.mod_lt _ hp.1
  exact hc_W h hg4 (by omega)
theorem hc_rel (h : HC w v) (hn : WFn v) (hw : WFG v) {m : Nat → Int32} (hr : RelM m v) : RelM m w := by
  obtain ⟨a1, a2, a3, a4, a5, a6, a7⟩ := hr
  unfold RelM
  rw [h.1, h.2.1, h.2.2.1, h.2.2.2.1, hc_D h, hc_G h, hc_O h]
  refine ⟨a1, a2, a3, a4, fun r hr => ?_, fun d hd => ?_, fun g hg => ?_⟩
  · obtain ⟨e1, e2, e3, e4, e5, e6⟩ := h.2.2.2.2.2.2.2.2.1 r hr
    rw [e2, e3, e4, e5, e6]
    exact a5 r hr
  · have h20 : d < 20 := Nat.lt_of_lt_of_le hd hn.2.2.2.2.1
    rw [(h.2.2.2.2.2.2.2.1 d h20).1, (h.2.2.2.2.2.2.2.1 d h20).2]
    exact a6 d hd
  · have hg4 : g < 4 := Nat.lt_of_lt_of_le hg hn.2.2.2.2.2.2.1
    have hp := hw.per g hg
    obtain ⟨e1, e2, e3⟩ := h.2.2.2.2.2.2.2.2.2.1 g hg4
    obtain ⟨b1, b2, b3⟩ := a7 g hg
    rw [e1, e2, hc_P h hg4]
    exact ⟨b1, b2, fun s hs => by rw [h.2.2.2.2.2.2.2.2.2.2 (10 * g + s) (by omega)]; exact b3 s hs⟩
end
/-- the best phases of the house v stand in bv -/
def BOK (bv : BestV) (v : HouseV) : Prop := ∃ β, BS bv v β ∧ BestIn (EV v) (rM v) (hG v) (prd (rM v) (hG v)) β
theorem best_CM {v : HouseV} (hw : WFG v) {γ β : Nat → Nat} (h1 : BestIn (EV v) (rC v) (hG v) (prd (rC v) (hG v)) γ) (h2 : BestIn (EV v) (rM v) (hG v) (prd (rM v) (hG v)) β) : ∀ g, g < hG v → β g = γ g := best_uni h2 h1 (best_red hw h2) fun _ h => boxC_M hw h
theorem prd_congr {r s : Nat → Nat} {k : Nat} (h : ∀ g, g < k → r g = s g) : prd r k = prd s k := by
  induction k with
  | zero => rfl
  | succ k ih => unfold prd; rw [ih fun g hg => h g (by omega), h k (by omega)]
theorem val_congr_r {r s φ : Nat → Nat} {k : Nat} (h : ∀ g, g < k → r g = s g) : val r φ k = val s φ k := by
  induction k with
  | zero => rfl
  | succ k ih => unfold val; rw [ih fun g hg => h g (by omega), h k (by omega)]
theorem bestIn_congr {E F : (Nat → Nat) → Int × Int} {r s β : Nat → Nat} {G c : Nat} (h : ∀ g, g < G → r g = s g) (hE : ∀ φ, E φ = F φ) (hB : BestIn E r G c β) : BestIn F s G c β := by
  obtain ⟨a, b, d⟩ := hB
  refine ⟨fun g hg => by rw [← h g hg]; exact a g hg, by rw [← val_congr_r h]; exact b, fun ψ hψ hl => ?_⟩
  have := d ψ (fun g hg => by rw [h g hg]; exact hψ g hg) (by rw [val_congr_r h]; exact hl)
  rw [hE, hE, val_congr_r h, val_congr_r h] at this
  exact this
theorem hc_EV {w v : HouseV} (h : HC w v) (hn : WFn v) (hw : WFG v) (φ : Nat → Nat) : EV w φ = EV v φ := by
  have : SW (HS w φ) (HS v φ) := by
    refine ⟨by rw [HS_R, HS_R]; exact hc_R h, by rw [HS_G, HS_G]; exact hc_G h, fun g hg => ?_⟩
    rw [HS_G, hc_G h] at hg
    have hg4 : g < 4 := Nat.lt_of_lt_of_le hg hn.2.2.2.2.2.2.1
    have hp := hw.per g hg
    refine ⟨by rw [HS_P, HS_P]; exact hc_P h hg4, fun t => ?_⟩
    rw [HS_pl, HS_pl, hc_P h hg4]
    have : (t % hP v g + (I (φ g : Int)).toNatClampNeg) % hP v g < hP v g := Nat.mod_lt _ hp.1
    exact hc_W h hg4 (by omega)
  unfold EV
  rw [sw_worst this, sw_cross this]
theorem search_s {v : HouseV} (hn : WFn v) (hw : WFG v) (hbest : ∃ β, BestIn (EV v) (rM v) (hG v) (prd (rM v) (hG v)) β) (bv : BestV) (t : HouseV) (s : SightV) : ∃ bv' t' s', Best_search bv t s v = some (bv', t', s') ∧ BOK bv' v ∧ Best_stamp bv' = House_walksStamp v := by
  obtain ⟨t1, e1, hc⟩ := copyFrom_s t v
  have hn1 := hc_n hc hn
  have hw1 := hc_wfG hc hn hw
  obtain ⟨f, h, e2, h2⟩ := beginChoices_s hn1 hw1 bv
  obtain ⟨bv', h', s', γ, e3, hB, hI, hst⟩ := search15_s (w3 := v) (bv := Best_set_spans bv f) (s := s) hn1 hw1 (fun g hg => (h2 g hg).1) (fun g hg => (h2 g hg).2)
  unfold Best_search
  rw [e1, bind_s, e2, bind_s]
  refine ⟨bv', _, s', e3, ?_, hst⟩
  obtain ⟨β, hβ⟩ := hbest
  have hr : ∀ g, g < hG v → rC t1 g = rC v g := fun g hg => by
    have hg4 : g < 4 := Nat.lt_of_lt_of_le hg hn.2.2.2.2.2.2.1
    unfold rC
    rw [hc_P hc hg4, cycTo_congr fun k hk => hc_P hc (by omega)]
  have eG := hc_G hc
  rw [eG] at hI
  have hI' : BestIn (EV v) (rC v) (hG v) (prd (rC v) (hG v)) γ := by
    rw [← prd_congr hr]
    exact bestIn_congr hr (hc_EV hc hn hw) hI
  have e := best_CM hw hI' hβ
  have eE := EV_congr (v := v) β γ e
  unfold BS at hB
  rw [hc_EV hc hn hw, eG] at hB
  refine ⟨β, ⟨by rw [eE]; exact hB.1, by rw [eE]; exact hB.2.1, fun g hg => ?_⟩, hβ⟩
  rw [e g hg]
  exact hB.2.2 g hg
end COPY

