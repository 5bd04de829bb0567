section RHOUSE
variable {K : KT} {T : TT} {t : ToksV} {l f e k : Nat} {v : HouseV} {m : Nat → Int32}
/-- an empty draft -/
def CL (c : Nat → Int32) : Prop := (∀ r, r < 12 → c (4 + 5 * r) = 99 ∧ c (5 + 5 * r) = 0 ∧ c (6 + 5 * r) = -1 ∧ c (7 + 5 * r) = 0 ∧ c (8 + 5 * r) = 0) ∧ c 1 = 0 ∧ c 2 = 0 ∧ c 3 = 0
/-- a house begun -/
theorem begin_ok {a : Nat} (h1 : 1 ≤ a) (h12 : a ≤ 12) (v : HouseV) : ∃ w, House_begin (I (a : Int)) v = some w ∧ HOK w ∧ ∀ m : Nat → Int32, CL m → RelM (upd m 0 (I (a : Int))) w := by
  obtain ⟨x, hx⟩ : ∃ x, x = I (a : Int) := ⟨_, rfl⟩
  unfold House_begin
  rw [← hx]
  simp only [nmL_e]
  obtain ⟨j1, e1, g1⟩ := fill_s (x := 0) (N := 12) (by decide) (House_joined (House_set_openDoors (House_set_minute (House_set_guards (House_set_doors (House_set_rooms v x) 0) 0) 0) 0))
  rw [e1, bind_s]
  obtain ⟨j2, e2, g2⟩ := fill_s (x := 99) (N := 12) (by decide) (House_limits (House_set_joined (House_set_openDoors (House_set_minute (House_set_guards (House_set_doors (House_set_rooms v x) 0) 0) 0) 0) j1))
  rw [e2, bind_s]
  obtain ⟨j3, e3, g3⟩ := fill_s (x := 0) (N := 12) (by decide) (House_sightings (House_set_limits (House_set_joined (House_set_openDoors (House_set_minute (House_set_guards (House_set_doors (House_set_rooms v x) 0) 0) 0) 0) j1) j2))
  rw [e3, bind_s]
  obtain ⟨j4, e4, g4⟩ := fill_s (x := -1) (N := 12) (by decide) (House_lastSeen (House_set_sightings (House_set_limits (House_set_joined (House_set_openDoors (House_set_minute (House_set_guards (House_set_doors (House_set_rooms v x) 0) 0) 0) 0) j1) j2) j3))
  rw [e4, bind_s]
  obtain ⟨j5, e5, g5⟩ := fill_s (x := 0) (N := 12) (by decide) (House_runs (House_set_lastSeen (House_set_sightings (House_set_limits (House_set_joined (House_set_openDoors (House_set_minute (House_set_guards (House_set_doors (House_set_rooms v x) 0) 0) 0) 0) j1) j2) j3) j4))
  rw [e5, bind_s]
  obtain ⟨j6, e6, g6⟩ := fill_s (x := 0) (N := 12) (by decide) (House_longestRuns (House_set_runs (House_set_lastSeen (House_set_sightings (House_set_limits (House_set_joined (House_set_openDoors (House_set_minute (House_set_guards (House_set_doors (House_set_rooms v x) 0) 0) 0) 0) j1) j2) j3) j4) j5))
  rw [e6, bind_s]
  refine ⟨_, rfl, ?_⟩
  clear e1 e2 e3 e4 e5 e6
  have f1 : House_rooms (House_set_longestRuns (House_set_runs (House_set_lastSeen (House_set_sightings (House_set_limits (House_set_joined (House_set_openDoors (House_set_minute (House_set_guards (House_set_doors (House_set_rooms v x) 0) 0) 0) 0) j1) j2) j3) j4) j5) j6) = x := by rw [Ho_rooms_longestRuns, Ho_rooms_runs, Ho_rooms_lastSeen, Ho_rooms_sightings, Ho_rooms_limits, Ho_rooms_joined, Ho_rooms_openDoors, Ho_rooms_minute, Ho_rooms_guards, Ho_rooms_doors, Ho_rooms_rooms]
  have f2 : House_doors (House_set_longestRuns (House_set_runs (House_set_lastSeen (House_set_sightings (House_set_limits (House_set_joined (House_set_openDoors (House_set_minute (House_set_guards (House_set_doors (House_set_rooms v x) 0) 0) 0) 0) j1) j2) j3) j4) j5) j6) = 0 := by rw [Ho_doors_longestRuns, Ho_doors_runs, Ho_doors_lastSeen, Ho_doors_sightings, Ho_doors_limits, Ho_doors_joined, Ho_doors_openDoors, Ho_doors_minute, Ho_doors_guards, Ho_doors_doors]
  have f3 : House_guards (House_set_longestRuns (House_set_runs (House_set_lastSeen (House_set_sightings (House_set_limits (House_set_joined (House_set_openDoors (House_set_minute (House_set_guards (House_set_doors (House_set_rooms v x) 0) 0) 0) 0) j1) j2) j3) j4) j5) j6) = 0 := by rw [Ho_guards_longestRuns, Ho_guards_runs, Ho_guards_lastSeen, Ho_guards_sightings, Ho_guards_limits, Ho_guards_joined, Ho_guards_openDoors, Ho_guards_minute, Ho_guards_guards]
  have f4 : House_minute (House_set_longestRuns (House_set_runs (House_set_lastSeen (House_set_sightings (House_set_limits (House_set_joined (House_set_openDoors (House_set_minute (House_set_guards (House_set_doors (House_set_rooms v x) 0) 0) 0) 0) j1) j2) j3) j4) j5) j6) = 0 := by rw [Ho_minute_longestRuns, Ho_minute_runs, Ho_minute_lastSeen, Ho_minute_sightings, Ho_minute_limits, Ho_minute_joined, Ho_minute_openDoors, Ho_minute_minute]
  have f5 : House_openDoors (House_set_longestRuns (House_set_runs (House_set_lastSeen (House_set_sightings (House_set_limits (House_set_joined (House_set_openDoors (House_set_minute (House_set_guards (House_set_doors (House_set_rooms v x) 0) 0) 0) 0) j1) j2) j3) j4) j5) j6) = 0 := by rw [Ho_openDoors_longestRuns, Ho_openDoors_runs, Ho_openDoors_lastSeen, Ho_openDoors_sightings, Ho_openDoors_limits, Ho_openDoors_joined, Ho_openDoors_openDoors]
  have f6 : House_joined (House_set_longestRuns (House_set_runs (House_set_lastSeen (House_set_sightings (House_set_limits (House_set_joined (House_set_openDoors (House_set_minute (House_set_guards (House_set_doors (House_set_rooms v x) 0) 0) 0) 0) j1) j2) j3) j4) j5) j6) = j1 := by rw [Ho_joined_longestRuns, Ho_joined_runs, Ho_joined_lastSeen, Ho_joined_sightings, Ho_joined_limits, Ho_joined_joined]
  have f7 : House_limits (House_set_longestRuns (House_set_runs (House_set_lastSeen (House_set_sightings (House_set_limits (House_set_joined (House_set_openDoors (House_set_minute (House_set_guards (House_set_doors (House_set_rooms v x) 0) 0) 0) 0) j1) j2) j3) j4) j5) j6) = j2 := by rw [Ho_limits_longestRuns, Ho_limits_runs, Ho_limits_lastSeen, Ho_limits_sightings, Ho_limits_limits]
  have f8 : House_sightings (House_set_longestRuns (House_set_runs (House_set_lastSeen (House_set_sightings (House_set_limits (House_set_joined (House_set_openDoors (House_set_minute (House_set_guards (House_set_doors (House_set_rooms v x) 0) 0) 0) 0) j1) j2) j3) j4) j5) j6) = j3 := by rw [Ho_sightings_longestRuns, Ho_sightings_runs, Ho_sightings_lastSeen, Ho_sightings_sightings]
  have f9 : House_lastSeen (House_set_longestRuns (House_set_runs (House_set_lastSeen (House_set_sightings (House_set_limits (House_set_joined (House_set_openDoors (House_set_minute (House_set_guards (House_set_doors (House_set_rooms v x) 0) 0) 0) 0) j1) j2) j3) j4) j5) j6) = j4 := by rw [Ho_lastSeen_longestRuns, Ho_lastSeen_runs, Ho_lastSeen_lastSeen]
  have f10 : House_runs (House_set_longestRuns (House_set_runs (House_set_lastSeen (House_set_sightings (House_set_limits (House_set_joined (House_set_openDoors (House_set_minute (House_set_guards (House_set_doors (House_set_rooms v x) 0) 0) 0) 0) j1) j2) j3) j4) j5) j6) = j5 := by rw [Ho_runs_longestRuns, Ho_runs_runs]
  have f11 : House_longestRuns (House_set_longestRuns (House_set_runs (House_set_lastSeen (House_set_sightings (House_set_limits (House_set_joined (House_set_openDoors (House_set_minute (House_set_guards (House_set_doors (House_set_rooms v x) 0) 0) 0) 0) j1) j2) j3) j4) j5) j6) = j6 := by rw [Ho_longestRuns_longestRuns]
  revert f1 f2 f3 f4 f5 f6 f7 f8 f9 f10 f11
  generalize House_set_longestRuns (House_set_runs (House_set_lastSeen (House_set_sightings (House_set_limits (House_set_joined (House_set_openDoors (House_set_minute (House_set_guards (House_set_doors (House_set_rooms v x) 0) 0) 0) 0) j1) j2) j3) j4) j5) j6 = w
  intro f1 f2 f3 f4 f5 f6 f7 f8 f9 f10 f11
  have gR : hR w = a := by unfold hR; rw [f1, hx]; exact I_clamp a (by omega)
  have gD : hD w = 0 := by unfold hD; rw [f2]; rfl
  have gG : hG w = 0 := by unfold hG; rw [f3]; rfl
  have gM : hM w = 0 := by unfold hM; rw [f4]; rfl
  have gO : hO w = 0 := by unfold hO; rw [f5]; rfl
  refine ⟨⟨?_, fun d hd => absurd hd (by omega), fun r hr => ?_, fun r hr => ?_, fun g hg => absurd hg (by omega), fun r hr => ?_⟩, fun m ⟨m1, m2, m3, m4⟩ => ?_⟩
  · unfold WFn
    rw [gR, gD, gG, gM, gO, f1, f2, f3, f4, f5]
    exact ⟨hx, h1, h12, rfl, by omega, rfl, by omega, rfl, by omega, rfl, by decide⟩
  · rw [f6, g1 r hr]
    have : jm w r = 0 := by unfold jm; rw [gD]; rfl
    rw [this]; rfl
  · have : hL w r = 99 := by unfold hL; rw [f7, g2 r hr]; rfl
    rw [this, f7, g2 r hr]
    exact ⟨rfl, by omega⟩
  · rw [f8, f9, f10, f11, g3 r hr, g4 r hr, g5 r hr, g6 r hr, gM]
    exact ⟨0, 0, 0, -1, rfl, by omega, rfl, by omega, rfl, by omega, rfl, by omega, by omega⟩
  · unfold RelM
    rw [gD, gG, f1, f2, f3, f4, f7, f8, f9, f10, f11, hx]
    refine ⟨upd_i, ?_, ?_, ?_, fun r hr => ?_, fun d hd => absurd hd (by omega), fun g hg => absurd hg (by omega)⟩
    · rw [upd_n (by omega)]; exact m2
    · rw [upd_n (by omega)]; exact m3
    · rw [upd_n (by omega)]; exact m4
    · rw [upd_n (by omega), upd_n (by omega), upd_n (by omega), upd_n (by omega), upd_n (by omega), g2 r hr, g3 r hr, g4 r hr, g5 r hr, g6 r hr]
      exact m1 r hr
end RHOUSE

