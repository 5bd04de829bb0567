section PASS2
theorem hS_e {v : HouseV} (hn : WFn v) (hs : WFs v) {r : Nat} (hr : r < 12) : House_sightings v r = I (hS v r) ∧ 0 ≤ hS v r ∧ hS v r ≤ hM v := by
  have hm : hM v ≤ 99999 := hn.2.2.2.2.2.2.2.2.1
  obtain ⟨a, b, c, d, h1, h2, -⟩ := hs r hr
  unfold hS
  rw [h1, I_clamp a (by omega)]
  exact ⟨rfl, by omega, by omega⟩
theorem countSightings_s {v : HouseV} (hn : WFn v) (hs : WFs v) : House_countSightings v = some (I (sumS v)) := by
  have hR12 : hR v ≤ 12 := hn.2.2.1
  have eR : House_rooms v = I (hR v) := hn.1
  have key : ∀ (q k n : Nat), hR v = k + q → q < n → House_countSightings_4 v n (I (sumTo (hS v) k)) (I (k : Int)) = some (I (sumS v)) := by
    intro q
    induction q with
    | zero =>
      intro k n hk hm
      obtain ⟨n, rfl⟩ : ∃ q, n = q + 1 := ⟨n - 1, by omega⟩
      rw [House_countSightings_4, eR, if_pos (I_le_t (by omega) (by omega) (by omega)), sumS, show k = hR v by omega]
    | succ q ih =>
      intro k n hk hm
      obtain ⟨n, rfl⟩ : ∃ q, n = q + 1 := ⟨n - 1, by omega⟩
      rw [House_countSightings_4, eR, if_neg (I_le_f (by omega) (by omega) (by omega)), I12, if_neg (I_le_f (by omega) (by omega) (by omega)), gd_I (by omega) (by omega) (by omega), nmL_e, nmL_e, I_clamp k (by omega), (hS_e hn hs (by omega)).1, I_add, I_succ]
      exact ih (k + 1) n (by omega) (by omega)
  unfold House_countSightings
  exact key (hR v) 0 FU (by omega) (by unfold FU; omega)
theorem sumTo_cnt {f g : Nat → Int} {p : Nat → Bool} {n : Nat} (h : ∀ r, r < n → g r = f r + (bif p r then 1 else 0)) : sumTo g n = sumTo f n + cnt p n := by
  induction n with
  | zero => rfl
  | succ n ih =>
    rw [show sumTo g (n + 1) = sumTo g n + g n from rfl, show sumTo f (n + 1) = sumTo f n + f n from rfl, show cnt p (n + 1) = cnt p n + (bif p n then 1 else 0) from rfl, ih fun r hr => h r (by omega), h n (by omega)]
    cases p n
    · rw [bif_f, bif_f]; omega
    · rw [bif_t, bif_t]; omega
/-- the minute goes on -/
theorem rel_min {m : Nat → Int32} {v : HouseV} (hn : WFn v) (hr : RelM m v) (x : Int32) : RelM (upd m 3 x) (House_set_minute v x) := by
  have gO : hO (House_set_minute v x) = hO v := by unfold hO; rw [Ho_openDoors_minute]
  have gD : hD (House_set_minute v x) = hD v := by unfold hD; rw [Ho_doors_minute]
  have gG : hG (House_set_minute v x) = hG v := by unfold hG; rw [Ho_guards_minute]
  have gP : hP (House_set_minute v x) = hP v := by unfold hP; rw [Ho_periods_minute]
  obtain ⟨a1, a2, a3, a4, a5, a6, a7⟩ := hr
  unfold RelM
  rw [gO, gD, gG, gP, Ho_rooms_minute, Ho_doors_minute, Ho_guards_minute, Ho_minute_minute, Ho_limits_minute, Ho_sightings_minute, Ho_lastSeen_minute, Ho_runs_minute, Ho_longestRuns_minute, Ho_doorFirst_minute, Ho_doorSecond_minute, Ho_periods_minute, Ho_phases_minute, Ho_walks_minute, upd_n (by omega), upd_n (by omega), upd_n (by omega), upd_i]
  refine ⟨a1, a2, a3, rfl, fun r hr => ?_, fun q hq => ?_, fun g hg => ?_⟩
  · rw [upd_n (by omega), upd_n (by omega), upd_n (by omega), upd_n (by omega), upd_n (by omega)]
    exact a5 r hr
  · rw [upd_n (by omega), upd_n (by omega), upd_n (by omega)]
    exact a6 q hq
  · obtain ⟨b1, b2, b3⟩ := a7 g hg
    rw [upd_n (by omega), upd_n (by omega)]
    exact ⟨b1, b2, fun s hs => by rw [upd_n (by omega)]; exact b3 s hs⟩
theorem sgm_min {w v : HouseV} (x : Int32) (h : SGm w v) : SGm (House_set_minute w x) v := by
  unfold SGm at h ⊢
  rw [Ho_rooms_minute, Ho_doors_minute, Ho_guards_minute, Ho_openDoors_minute, Ho_walksStamp_minute, Ho_phasesStamp_minute, Ho_doorFirst_minute, Ho_doorSecond_minute, Ho_joined_minute, Ho_limits_minute, Ho_periods_minute, Ho_phases_minute, Ho_walks_minute, Ho_walked_minute]
  exact h
end PASS2

