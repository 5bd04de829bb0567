section WALK
variable {K : KT} {T : TT} {t : ToksV} {l f e k g : Nat} {v : HouseV}
theorem setPhase_gu (v : HouseV) (g : Nat) (x : Int32) : GU (House_set_phases v (upd (House_phases v) g x)) v g := ⟨Ho_rooms_phases _ _, Ho_doors_phases _ _, Ho_guards_phases _ _, Ho_minute_phases _ _, Ho_openDoors_phases _ _, Ho_doorFirst_phases _ _, Ho_doorSecond_phases _ _, Ho_joined_phases _ _, Ho_limits_phases _ _, Ho_sightings_phases _ _, Ho_lastSeen_phases _ _, Ho_runs_phases _ _, Ho_longestRuns_phases _ _, fun g' hne => ⟨by rw [Ho_periods_phases], by rw [Ho_phases_phases, upd_n hne], by rw [Ho_walked_phases], fun s _ => by rw [Ho_walks_phases]⟩⟩
theorem c108 (t : ToksV) (v : HouseV) (x c : Int32) (hc : ¬ c = 0) (ic : Bool) : HRead_readWalk_108 x ic c t v = some (c, t, v) := by
  unfold HRead_readWalk_108
  rw [if_neg hc]
theorem c94 (t : ToksV) (v : HouseV) (x c : Int32) (hc : ¬ c = 0) (ic : Bool) : HRead_readWalk_94 x ic c t v = some (c, t, v) := by
  unfold HRead_readWalk_94
  rw [if_neg hc, c108 t v x c hc]
theorem c34 (t : ToksV) (v : HouseV) (x c y : Int32) (hc : ¬ c = 0) (ic : Bool) (n : Nat) : HRead_readWalk_34 x ic (n + 1) c y t v = some (c, t, v) := by
  rw [HRead_readWalk_34]
  by_cases d : 10 < y
  · rw [if_pos d, c94 t v x c hc]
  · rw [if_neg d, if_neg hc, c94 t v x c hc]
end WALK

