section READ2
variable {K : KT} {T : TT} {t : ToksV} {l f e k : Nat} {v : HouseV} {m : Nat → Int32}
theorem setGuards_bw (hv : HOK v) (hg4 : hG v < 4) (hr : RelM m v) : ∃ w, w = House_set_guards v (House_guards v + 1) ∧ BW w (hG v) ∧ hG w = hG v + 1 ∧ BR m w (hG v) ∧ House_guards w = I ((hG v + 1 : Nat) : Int) := by
  obtain ⟨hn, hd, hj, hl, hw, hs⟩ := hv
  have eG : House_guards v = I (hG v : Int) := hn.2.2.2.2.2.1
  obtain ⟨x, hx⟩ : ∃ x, x = I ((hG v + 1 : Nat) : Int) := ⟨_, rfl⟩
  have ex : House_guards v + 1 = x := by rw [eG, hx, I_succ]
  rw [ex]
  refine ⟨_, rfl, ?_⟩
  have f1 : House_rooms (House_set_guards v x) = House_rooms v := Ho_rooms_guards _ _
  have f2 : House_doors (House_set_guards v x) = House_doors v := Ho_doors_guards _ _
  have f3 : House_guards (House_set_guards v x) = x := Ho_guards_guards _ _
  have f4 : House_minute (House_set_guards v x) = House_minute v := Ho_minute_guards _ _
  have f5 : House_openDoors (House_set_guards v x) = House_openDoors v := Ho_openDoors_guards _ _
  have f6 : House_doorFirst (House_set_guards v x) = House_doorFirst v := Ho_doorFirst_guards _ _
  have f7 : House_doorSecond (House_set_guards v x) = House_doorSecond v := Ho_doorSecond_guards _ _
  have f8 : House_limits (House_set_guards v x) = House_limits v := Ho_limits_guards _ _
  have f9 : House_periods (House_set_guards v x) = House_periods v := Ho_periods_guards _ _
  have f10 : House_phases (House_set_guards v x) = House_phases v := Ho_phases_guards _ _
  have f11 : House_walks (House_set_guards v x) = House_walks v := Ho_walks_guards _ _
  have f12 : House_walked (House_set_guards v x) = House_walked v := Ho_walked_guards _ _
  have f13 : House_sightings (House_set_guards v x) = House_sightings v := Ho_sightings_guards _ _
  have f14 : House_lastSeen (House_set_guards v x) = House_lastSeen v := Ho_lastSeen_guards _ _
  have f15 : House_runs (House_set_guards v x) = House_runs v := Ho_runs_guards _ _
  have f16 : House_longestRuns (House_set_guards v x) = House_longestRuns v := Ho_longestRuns_guards _ _
  have f19 : House_joined (House_set_guards v x) = House_joined v := Ho_joined_guards _ _
  revert f1 f2 f3 f4 f5 f6 f7 f8 f9 f10 f11 f12 f13 f14 f15 f16 f19
  generalize House_set_guards v x = w
  intro f1 f2 f3 f4 f5 f6 f7 f8 f9 f10 f11 f12 f13 f14 f15 f16 f19
  have gR : hR w = hR v := by unfold hR; rw [f1]
  have gM : hM w = hM v := by unfold hM; rw [f4]
  have gO : hO w = hO v := by unfold hO; rw [f5]
  have gD : hD w = hD v := by unfold hD; rw [f2]
  have gG : hG w = hG v + 1 := by unfold hG at *; rw [f3, hx]; exact I_clamp _ (by omega)
  have gP : hP w = hP v := by unfold hP; rw [f9]
  have gF : hF w = hF v := by unfold hF; rw [f10]
  refine ⟨⟨?_, wfd_c f2 f1 f6 f7 hd, wfj_c f2 f5 f6 f7 f19 hj, wfl_c f8 hl, wfs_c f4 f13 f15 f16 f14 hs, fun g' hg hne => ?_⟩, gG, ?_, by rw [f3, hx]⟩
  · obtain ⟨a1, a2, a3, a4, a5, a6, a7, a8, a9, a10, a11⟩ := hn
    unfold WFn
    rw [gO, gD, gG, gR, gM, f1, f2, f3, f4, f5]
    exact ⟨a1, a2, a3, a4, a5, hx, by omega, a8, a9, a10, a11⟩
  · rw [gG] at hg
    obtain ⟨c1, c2, c3, c4⟩ := hw g' (by omega)
    refine ⟨wfw_c f1 f9 f11 f12 c1, ?_, ?_, ?_⟩
    · rw [gP]; exact c2
    · rw [gF, f10]; exact c3
    · rw [gF, gP]; exact c4
  · obtain ⟨a1, a2, a3, a4, a5, a6, a7⟩ := hr
    unfold BR
    rw [gO, gD, gG, f1, f2, f4, f6, f7, f8, f13, f14, f15, f16]
    refine ⟨a1, a2, a4, a5, a6, fun g' hg hne => ?_⟩
    unfold rowM
    rw [gP, f9, f10, f11]
    exact a7 g' (by omega)
/-- what is well behind a walk -/
theorem hok_of {g : Nat} {w v' : HouseV} (b : BW w g) (gu : GU v' w g) (ww : WFw v' g) (h1 : 1 ≤ hP v' g) (h2 : House_phases v' g = I (hF v' g : Int)) (h3 : hF v' g < hP v' g) : HOK v' := by
  obtain ⟨b1, b2, b3, b4, b5, b6⟩ := gu.bw b
  exact ⟨b1, b2, b3, b4, fun g' hg => by
    by_cases c : g' = g
    · rw [c]; exact ⟨ww, h1, h2, h3⟩
    · exact b6 g' hg c, b5⟩
end READ2

