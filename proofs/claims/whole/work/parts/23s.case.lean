section CASES18
variable {n c L : Nat} {k23 : K23} {xs : Nat → Int32} {v0 : GWV} {v1 v2 v5 v9 : HouseV} {v3 : HistV} {v4 : Nat → HouseV} {v6 v7 v10 : SightV} {v8 : BestV} {v11 : IntrV} {v12 : ToksV} {v14 : QReadV} {v15 v16 : Nat → Int32} {v17 M' : ModelV} {v19 : Nat → Int64}
/-- another stamp -/
theorem pstamp_ok {v : HouseV} (hv : HOK v) (x : Int32) : HOK (House_set_phasesStamp v x) ∧ WE (House_set_phasesStamp v x) v ∧ SW (House_set_phasesStamp v x) v ∧ ∀ m : Nat → Int32, RelM m v → RelM m (House_set_phasesStamp v x) := by
  obtain ⟨hn, hd, hj, hl, hw, hs⟩ := hv
  have f_rooms : House_rooms (House_set_phasesStamp v x) = House_rooms v := Ho_rooms_phasesStamp v x
  have f_doors : House_doors (House_set_phasesStamp v x) = House_doors v := Ho_doors_phasesStamp v x
  have f_guards : House_guards (House_set_phasesStamp v x) = House_guards v := Ho_guards_phasesStamp v x
  have f_minute : House_minute (House_set_phasesStamp v x) = House_minute v := Ho_minute_phasesStamp v x
  have f_openDoors : House_openDoors (House_set_phasesStamp v x) = House_openDoors v := Ho_openDoors_phasesStamp v x
  have f_walksStamp : House_walksStamp (House_set_phasesStamp v x) = House_walksStamp v := Ho_walksStamp_phasesStamp v x
  have f_doorFirst : House_doorFirst (House_set_phasesStamp v x) = House_doorFirst v := Ho_doorFirst_phasesStamp v x
  have f_doorSecond : House_doorSecond (House_set_phasesStamp v x) = House_doorSecond v := Ho_doorSecond_phasesStamp v x
  have f_joined : House_joined (House_set_phasesStamp v x) = House_joined v := Ho_joined_phasesStamp v x
  have f_limits : House_limits (House_set_phasesStamp v x) = House_limits v := Ho_limits_phasesStamp v x
  have f_periods : House_periods (House_set_phasesStamp v x) = House_periods v := Ho_periods_phasesStamp v x
  have f_phases : House_phases (House_set_phasesStamp v x) = House_phases v := Ho_phases_phasesStamp v x
  have f_walks : House_walks (House_set_phasesStamp v x) = House_walks v := Ho_walks_phasesStamp v x
  have f_walked : House_walked (House_set_phasesStamp v x) = House_walked v := Ho_walked_phasesStamp v x
  have f_sightings : House_sightings (House_set_phasesStamp v x) = House_sightings v := Ho_sightings_phasesStamp v x
  have f_lastSeen : House_lastSeen (House_set_phasesStamp v x) = House_lastSeen v := Ho_lastSeen_phasesStamp v x
  have f_runs : House_runs (House_set_phasesStamp v x) = House_runs v := Ho_runs_phasesStamp v x
  have f_longestRuns : House_longestRuns (House_set_phasesStamp v x) = House_longestRuns v := Ho_longestRuns_phasesStamp v x
  revert f_rooms f_doors f_guards f_minute f_openDoors f_walksStamp f_doorFirst f_doorSecond f_joined f_limits f_periods f_phases f_walks f_walked f_sightings f_lastSeen f_runs f_longestRuns
  generalize House_set_phasesStamp v x = w
  intro f_rooms f_doors f_guards f_minute f_openDoors f_walksStamp f_doorFirst f_doorSecond f_joined f_limits f_periods f_phases f_walks f_walked f_sightings f_lastSeen f_runs f_longestRuns
  have gR : hR w = hR v := by unfold hR; rw [f_rooms]
  have gD : hD w = hD v := by unfold hD; rw [f_doors]
  have gG : hG w = hG v := by unfold hG; rw [f_guards]
  have gO : hO w = hO v := by unfold hO; rw [f_openDoors]
  have gP : hP w = hP v := by unfold hP; rw [f_periods]
  refine ⟨⟨wfn_c f_rooms f_doors f_guards f_minute f_openDoors hn, wfd_c f_doors f_rooms f_doorFirst f_doorSecond hd, wfj_c f_doors f_openDoors f_doorFirst f_doorSecond f_joined hj, wfl_c f_limits hl, wfG_c f_rooms f_guards f_periods f_phases f_walks f_walked hw, wfs_c f_minute f_sightings f_runs f_longestRuns f_lastSeen hs⟩, we_c hw f_rooms f_guards f_periods f_walks, sw_c f_rooms f_guards f_periods f_phases f_walks, fun m hr => ?_⟩
  obtain ⟨a1, a2, a3, a4, a5, a6, a7⟩ := hr
  unfold RelM
  rw [gO, gD, gG, gP, f_rooms, f_doors, f_guards, f_minute, f_doorFirst, f_doorSecond, f_limits, f_periods, f_phases, f_walks, f_sightings, f_lastSeen, f_runs, f_longestRuns]
  exact ⟨a1, a2, a3, a4, a5, a6, a7⟩
theorem wstamp_ok {v : HouseV} (hv : HOK v) (x : Int32) : HOK (House_set_walksStamp v x) ∧ WE (House_set_walksStamp v x) v ∧ SW (House_set_walksStamp v x) v ∧ ∀ m : Nat → Int32, RelM m v → RelM m (House_set_walksStamp v x) := by
  obtain ⟨hn, hd, hj, hl, hw, hs⟩ := hv
  have f_rooms : House_rooms (House_set_walksStamp v x) = House_rooms v := Ho_rooms_walksStamp v x
  have f_doors : House_doors (House_set_walksStamp v x) = House_doors v := Ho_doors_walksStamp v x
  have f_guards : House_guards (House_set_walksStamp v x) = House_guards v := Ho_guards_walksStamp v x
  have f_minute : House_minute (House_set_walksStamp v x) = House_minute v := Ho_minute_walksStamp v x
  have f_openDoors : House_openDoors (House_set_walksStamp v x) = House_openDoors v := Ho_openDoors_walksStamp v x
  have f_phasesStamp : House_phasesStamp (House_set_walksStamp v x) = House_phasesStamp v := Ho_phasesStamp_walksStamp v x
  have f_doorFirst : House_doorFirst (House_set_walksStamp v x) = House_doorFirst v := Ho_doorFirst_walksStamp v x
  have f_doorSecond : House_doorSecond (House_set_walksStamp v x) = House_doorSecond v := Ho_doorSecond_walksStamp v x
  have f_joined : House_joined (House_set_walksStamp v x) = House_joined v := Ho_joined_walksStamp v x
  have f_limits : House_limits (House_set_walksStamp v x) = House_limits v := Ho_limits_walksStamp v x
  have f_periods : House_periods (House_set_walksStamp v x) = House_periods v := Ho_periods_walksStamp v x
  have f_phases : House_phases (House_set_walksStamp v x) = House_phases v := Ho_phases_walksStamp v x
  have f_walks : House_walks (House_set_walksStamp v x) = House_walks v := Ho_walks_walksStamp v x
  have f_walked : House_walked (House_set_walksStamp v x) = House_walked v := Ho_walked_walksStamp v x
  have f_sightings : House_sightings (House_set_walksStamp v x) = House_sightings v := Ho_sightings_walksStamp v x
  have f_lastSeen : House_lastSeen (House_set_walksStamp v x) = House_lastSeen v := Ho_lastSeen_walksStamp v x
  have f_runs : House_runs (House_set_walksStamp v x) = House_runs v := Ho_runs_walksStamp v x
  have f_longestRuns : House_longestRuns (House_set_walksStamp v x) = House_longestRuns v := Ho_longestRuns_walksStamp v x
  revert f_rooms f_doors f_guards f_minute f_openDoors f_phasesStamp f_doorFirst f_doorSecond f_joined f_limits f_periods f_phases f_walks f_walked f_sightings f_lastSeen f_runs f_longestRuns
  generalize House_set_walksStamp v x = w
  intro f_rooms f_doors f_guards f_minute f_openDoors f_phasesStamp f_doorFirst f_doorSecond f_joined f_limits f_periods f_phases f_walks f_walked f_sightings f_lastSeen f_runs f_longestRuns
  have gR : hR w = hR v := by unfold hR; rw [f_rooms]
  have gD : hD w = hD v := by unfold hD; rw [f_doors]
  have gG : hG w = hG v := by unfold hG; rw [f_guards]
  have gO : hO w = hO v := by unfold hO; rw [f_openDoors]
  have gP : hP w = hP v := by unfold hP; rw [f_periods]
  refine ⟨⟨wfn_c f_rooms f_doors f_guards f_minute f_openDoors hn, wfd_c f_doors f_rooms f_doorFirst f_doorSecond hd, wfj_c f_doors f_openDoors f_doorFirst f_doorSecond f_joined hj, wfl_c f_limits hl, wfG_c f_rooms f_guards f_periods f_phases f_walks f_walked hw, wfs_c f_minute f_sightings f_runs f_longestRuns f_lastSeen hs⟩, we_c hw f_rooms f_guards f_periods f_walks, sw_c f_rooms f_guards f_periods f_phases f_walks, fun m hr => ?_⟩
  obtain ⟨a1, a2, a3, a4, a5, a6, a7⟩ := hr
  unfold RelM
  rw [gO, gD, gG, gP, f_rooms, f_doors, f_guards, f_minute, f_doorFirst, f_doorSecond, f_limits, f_periods, f_phases, f_walks, f_sightings, f_lastSeen, f_runs, f_longestRuns]
  exact ⟨a1, a2, a3, a4, a5, a6, a7⟩
/-- the phases are stamped anew -/
theorem mark_s {v : HouseV} (hv : HOK v) {g : GWV} {ls : Nat} (hl : GW_lastStamp g = I (ls : Int)) : ∃ g' w, GW_markPhasesChanged g v = some (g', w) ∧ GW_lastStamp g' = I ((ls + 1 : Nat) : Int) ∧ GW_lastErrorPosition g' = GW_lastErrorPosition g ∧ GW_formattedLength g' = GW_formattedLength g ∧ GW_formatted g' = GW_formatted g ∧ HOK w ∧ WE w v ∧ SW w v ∧ House_phasesStamp w = I ((ls + 1 : Nat) : Int) ∧ House_walksStamp w = House_walksStamp v ∧ ∀ m : Nat → Int32, RelM m v → RelM m w := by
  have e : GW_lastStamp (GW_set_lastStamp g (GW_lastStamp g + 1)) = I ((ls + 1 : Nat) : Int) := by
    show GW_lastStamp g + 1 = _
    rw [hl, I_succ]
  unfold GW_markPhasesChanged
  rw [nmL_e, nmL_e, e]
  obtain ⟨k1, k2, k3, k4⟩ := pstamp_ok hv (I ((ls + 1 : Nat) : Int))
  exact ⟨_, _, rfl, e, rfl, rfl, rfl, k1, k2, k3, Ho_phasesStamp_phasesStamp _ _, Ho_walksStamp_phasesStamp _ _, k4⟩
/-- the phase of a guard is shifted -/
theorem shift_ay (h : Inv n v0 v1 v3 v4 v5 v6 v8 v12 v17) (hnn : n ≤ 99999) (x y : Int32) : AY (fun _ => True) v17 (GW_shift x y v0 v1 v3 v4 v6) (Mod_shift x y v17) (fun s M' => Inv (n + 1) s.1 s.2.1 s.2.2.1 s.2.2.2.1 v5 s.2.2.2.2 v8 v12 M') := by
  have h0 := h
  obtain ⟨Φ0, Ψ0, ls0, b, len, -, -, a3, a4, -⟩ := h
  have hv := a3.1
  have hn := hv.1
  have hw := hv.2.2.2.2.1
  have hG4 : hG v1 ≤ 4 := hn.2.2.2.2.2.2.1
  obtain ⟨z, rfl, z1, z2⟩ := sel32 x
  obtain ⟨w, rfl, w1, w2⟩ := sel32 y
  unfold GW_shift Mod_shift
  rw [needGuard_s hn z1 z2, bind_s, isGuard_m a4 hn z1 z2, bind_s]
  by_cases c : 0 ≤ z ∧ z < hG v1
  · obtain ⟨d, rfl⟩ : ∃ d : Nat, z = (d : Int) := ⟨z.toNat, by omega⟩
    have hdd : d < hG v1 := by omega
    rw [if_pos c, decide_eq_true c, bif_t, isPhase_m a4 hn hw hdd w1 w2, bind_s]
    unfold exK Mod_shift_27
    dsimp only
    rw [gd_I (by omega) (by omega) (by omega), I_clamp d (by omega), needPhase_s hw hdd w1 w2, bind_s]
    by_cases c2 : 0 ≤ w ∧ w ≤ (hP v1 d : Int) - 1
    · obtain ⟨s, rfl⟩ : ∃ d : Nat, w = (d : Int) := ⟨w.toNat, by omega⟩
      have hss : s < hP v1 d := by omega
      obtain ⟨Φ, Ψ, ls, h', e', M1, e1, e2, e3, e4, e5, e6, e7, e8, e9, e10, e11⟩ := h0.op0
      obtain ⟨k1, k2, k3⟩ := setPhase_ok hv hdd hss
      have kr := k3 _ e10
      have ks : House_walksStamp (House_set_phases v1 (upd (House_phases v1) d (I (s : Int)))) = House_walksStamp v1 := Ho_walksStamp_phases _ _
      revert k1 k2 kr ks
      generalize House_set_phases v1 (upd (House_phases v1) d (I (s : Int))) = u
      intro k1 k2 kr ks
      obtain ⟨g', q, q1, q2, q3, q4, q5, q6, q7, q8, q9, q10, q11⟩ := mark_s k1 e1
      have hqv : WE q v1 := q7.trans k2
      obtain ⟨Φ', p1, hj⟩ := e3.phases q6 q9 (q10.trans ks) hqv
      have hs6 := e4.mono (ls' := ls + 1) (by omega) p1
      obtain ⟨s1, m1, m2, m3⟩ := measured_s q6.1 q6.2.2.2.2.1 (hs6.ms hj (by omega)) g'
      have hr2 : RelM (Model_now (Model_set_now M1 (upd (Model_now M1) (125 + 12 * d) (I (s : Int))))) q := by rw [Mo_now_now]; exact q11 _ kr
      obtain ⟨ph, cy, f, l', s', gg, bb, e, j1, j2, j3⟩ := layNow_m hr2 q6.1 q6.2.2.2.2.1
      have hrB : RelM (Model_now (Model_set_cycleNow (Model_set_phases (Model_set_now M1 (upd (Model_now M1) (125 + 12 * d) (I (s : Int)))) ph) cy)) q := by rw [Mo_now_cycleNow, Mo_now_phases]; exact hr2
      have hrL := rel_ML (f := f) (l := l') (s := s') (g := gg) (b := bb) hrB
      have eW := worstLaid_m (l := l') (f := f) hrB q6.1 (cyc_pos q6.2.2.2.2.1) (cyc_le q6.2.2.2.2.1) j3 rfl
      have kk : kp (ML (Model_set_cycleNow (Model_set_phases (Model_set_now M1 (upd (Model_now M1) (125 + 12 * d) (I (s : Int)))) ph) cy) f l' s' gg bb) = kp (Model_set_now M1 (upd (Model_now M1) (125 + 12 * d) (I (s : Int)))) := by rw [kp_ML, kp_cycleNow, kp_phases]
      revert e hrL eW kk
      generalize ML (Model_set_cycleNow (Model_set_phases (Model_set_now M1 (upd (Model_now M1) (125 + 12 * d) (I (s : Int)))) ph) cy) f l' s' gg bb = N
      intro e hrL eW kk
      have kT : Model_thrown N = 0 := (congrArg (fun q => q.1) kk).trans ((Mo_thrown_now _ _).trans e8)
      have kN : kpN N = kpN M1 := (congrArg (fun q => q.2.2) kk).trans (kpN_now _ _)
      have hc : (I ((125 + 12 * d : Nat) : Int)).toNatClampNeg = 125 + 12 * d := I_clamp _ (by omega)
      rw [if_pos c2, decide_eq_true c2, bif_t]
      dsimp only
      rw [e6, bind_s, nmL_e, q1, bind_s, nmL_e, if_pos (Mo_thrown_thrown v17 0), e7, bind_s, ga1, bind_s, gd_I (by omega) (by omega) (by omega), nmL_e, hc, e, bind_s, eW, bind_s]
      dsimp only
      rw [m1, bind_s, m2.2]
      refine Or.inl ⟨_, (g', q, h', e', s1), N, rfl, rfl, kT, ?_⟩
      exact e11 Φ' Ψ (ls + 1) g' q s1 v8 N q2 (by omega) (by omega) p1 (fun _ _ => rfl) hj hrL kN q3 q4 q5 (SI2.of hj m2 m3) (e5.mono (by omega) (fun _ _ => rfl))
    · rw [if_neg c2, decide_eq_false c2, bif_f]
      dsimp only
      rw [nmL_e, if_neg (thr_no (by decide))]
      exact Or.inr ⟨true, _, _, trivial, rfl, rfl, Mo_thrown_thrown _ _, kpA_thr _ _⟩
  · rw [if_neg c, decide_eq_false c, bif_f]
    unfold exK Mod_shift_27
    dsimp only
    rw [nmL_e, if_neg (thr_no (by decide))]
    exact Or.inr ⟨false, _, _, trivial, rfl, rfl, Mo_thrown_thrown _ _, kpA_thr _ _⟩
theorem case_1768 (h : Inv n v0 v1 v3 v4 v5 v6 v8 v12 v17) (hn : n ≤ 99999) (hc : c + 6 ≤ L) (hL : L ≤ 3072) : NX n c k23 (Law_1768 L xs k23 (I (c : Int)) v0 v1 v2 v3 v4 v5 v6 v7 v8 v9 v10 v11 v12 v14 v15 v16 v17 v19) := by
  have h0 := h
  unfold Law_1768
  rw [gd_t (in1 hc hL), gd_t (in2 hc hL)]
  unfold L_shift
  rcases shift_ay h0 (show n ≤ 99999 from hn) (xs (Int32.toNatClampNeg (I (c : Int) + 1))) (xs (Int32.toNatClampNeg (I (c : Int) + 2))) with ⟨a, s, M', e1, e2, e3, e4⟩ | ⟨b, x, M', eb, e1, e2, e3, e4⟩
  · rw [e1, bind_s]
    unfold exC
    dsimp only
    rw [gd_t (show inB (0 : Int32) 1 = true from rfl), nmL_e, bind_s, e2, bind_s]
    unfold Mod_thrown
    rw [bind_s]
    dsimp only
    rw [e3, if_pos rfl, if_pos rfl, gd_t (show inB (0 : Int32) 1 = true from rfl), if_pos (show lg_cmp (vp_updL v19 (Int32.toNatClampNeg 0) (Int32.toInt64 a) (Int32.toNatClampNeg 0)) (Int32.toInt64 a) = 0 by rw [updL_i]; exact lg_self _), nmL_e]
    exact ⟨s.1, s.2.1, v2, s.2.2.1, s.2.2.2.1, v5, s.2.2.2.2, v7, v8, v9, v10, v11, v12, v14, v15, v16, M', _, rfl, e4⟩
  · rw [e1, bind_s]
    unfold exC
    dsimp only
    cases b
    · rw [bif_f, bind_s, e2, bind_s]
      unfold Mod_thrown
      rw [bind_s]
      dsimp only
      rw [e3, if_neg (show ¬ (false = true) by decide), if_pos rfl, if_neg (show ¬ (1 : Int32) = 0 by decide), nmL_e]
      exact ⟨v0, v1, v2, v3, v4, v5, v6, v7, v8, v9, v10, v11, v12, v14, v15, v16, M', _, rfl, h0.keep e4⟩
    · rw [bif_t, bind_s, e2, bind_s]
      unfold Mod_thrown
      rw [bind_s]
      dsimp only
      rw [e3, if_pos (show true = true from rfl), if_pos rfl, if_neg (show ¬ (2 : Int32) = 0 by decide), nmL_e]
      exact ⟨v0, v1, v2, v3, v4, v5, v6, v7, v8, v9, v10, v11, v12, v14, v15, v16, M', _, rfl, h0.keep e4⟩
/-- what the two answer to a call that refuses a number alone -/
def AI {σ : Type} (M : ModelV) (gw : Option (Except Bool (Int32 × σ))) (mod : Option (Int32 × ModelV)) (Po : σ → ModelV → Prop) : Prop := (∃ a s M', gw = some (.ok (a, s)) ∧ mod = some (a, M') ∧ Model_thrown M' = 0 ∧ Po s M') ∨ (∃ (b : Bool) (x : Int32) (M' : ModelV), b = true ∧ gw = some (.error b) ∧ mod = some (x, M') ∧ Model_thrown M' = 1 ∧ kpA M' = kpA M)
/-- minutes pass -/
theorem pass_ay (h : Inv n v0 v1 v3 v4 v5 v6 v8 v12 v17) (x : Int32) : AI v17 (GW_pass x v0 v1 v3 v4) (Mod_pass x v17) (fun s M' => Inv (n + 1) v0 s.1 s.2.1 s.2.2 v5 v6 v8 v12 M') := by
  have h0 := h
  obtain ⟨Φ0, Ψ0, ls0, b, len, -, -, a3, a4, -⟩ := h
  have hv := a3.1
  have hn := hv.1
  have hM9 : hM v1 ≤ 99999 := hn.2.2.2.2.2.2.2.2.1
  have hMi : House_minute v1 = I (hM v1 : Int) := hn.2.2.2.2.2.2.2.1
  have hr0 : RelM (Model_now (Model_set_thrown v17 0)) v1 := by rw [Mo_now_thrown]; exact a4
  have e3 : Model_now (Model_set_thrown v17 0) (Int32.toNatClampNeg 3) = I (hM v1 : Int) := hr0.2.2.2.1.trans hMi
  obtain ⟨z, rfl, z1, z2⟩ := sel32 x
  have hin : Mod_inRange (I z) 1 500 = some (decide (1 ≤ z ∧ z ≤ 500)) := inRange_s (a := 1) (b := 500) z1 z2 (by omega) (by omega) (by omega) (by omega)
  have hne : GW_needRange (I z) 1 500 = some (if 1 ≤ z ∧ z ≤ 500 then .ok () else .error true) := needRange_s (lo := 1) (hi := 500) z1 z2 (by omega) (by omega) (by omega) (by omega)
  unfold GW_pass Mod_pass
  rw [hne, bind_s, nmL_e, hin, bind_s]
  by_cases c : 1 ≤ z ∧ z ≤ 500
  · obtain ⟨k, rfl⟩ : ∃ d : Nat, z = (d : Int) := ⟨z.toNat, by omega⟩
    rw [if_pos c, decide_eq_true c, bif_t, gd_t (show inB (3 : Int32) 172 = true from rfl), e3, hMi, addN]
    unfold exK
    dsimp only
    left
    by_cases c2 : hM v1 + k ≤ 99999
    · have hle : I ((hM v1 + k : Nat) : Int) ≤ (99999 : Int32) := I_le_t (b := 99999) (by omega) (by omega) (by omega)
      obtain ⟨Φ, Ψ, ls, h', e', M1, e1, e2, e3, e4, e5, e6, e7, e8, e9, e10, e11⟩ := h0.op0
      obtain ⟨f, t1, t2⟩ := takePhases_m (M := M1) e10 hn
      have hP : ∃ P, P = Model_set_phases M1 f ∧ RelM (Model_now P) v1 ∧ PhM P v1 (hF v1) ∧ kp P = kp M1 := ⟨_, rfl, rel_ph e10, PhM.of (M := M1) hv.2.2.2.2.1 t2, kp_phases M1 f⟩
      obtain ⟨P, p0, p1, p2, p3⟩ := hP
      obtain ⟨w, f', r1, r2, r3, r4, r5⟩ := pass_minutes (M := P) (v0 := v0) (v2 := h') (v3 := e') p2 (mins := k) (S0 := sumS v1) (by omega) k 0 FU FU v1 (Model_now P) (by omega) (by unfold FU; omega) (by unfold FU; omega) hv p1 (SGm.refl v1) (by omega)
      have r1' : GW_pass_41 (I (k : Int)) v0 FU 0 0 v1 h' e' = some (.ok (I (sumS w - sumS v1), w, h', e')) := by
        rw [Int.sub_self] at r1
        exact r1
      have r2' : Mod_pass_54 (I (k : Int)) (I (sumS v1)) FU 0 P = some (I (sumS w - sumS v1), Model_set_now P f') := r2
      rw [if_pos hle, if_pos hle, e6, bind_s, e7, bind_s, t1, bind_s, ← p0, sightings_m p1 hn hv.2.2.2.2.2, bind_s, r2']
      dsimp only
      rw [r1']
      refine ⟨_, (w, h', e'), _, rfl, rfl, (Mo_thrown_now _ _).trans ((congrArg (fun q => q.1) p3).trans e8), ?_⟩
      have g1 : WE w v1 := we_c hv.2.2.2.2.1 r5.1 r5.2.2.1 r5.2.2.2.2.2.2.2.2.2.2.1 r5.2.2.2.2.2.2.2.2.2.2.2.2.1
      have hj := e3.same r3 r5.2.2.2.2.2.1 r5.2.2.2.2.1 (sgm_sw r5) g1
      exact e11 Φ Ψ ls v0 w v6 v8 _ e1 (Nat.le_refl _) (by omega) (fun _ _ => rfl) (fun _ _ => rfl) hj (by rw [Mo_now_now]; exact r4) ((kpN_now _ _).trans (congrArg (fun q => q.2.2) p3)) rfl rfl rfl e4 e5
    · have hle : ¬ I ((hM v1 + k : Nat) : Int) ≤ (99999 : Int32) := I_le_f (b := 99999) (by omega) (by omega) (by omega)
      rw [if_neg hle, if_neg hle]
      exact ⟨_, (v1, v3, v4), _, rfl, rfl, Mo_thrown_thrown _ _, h0.keep (kpA_thr _ _)⟩
  · obtain ⟨M', r1, r2, r3⟩ := raise_ax (M := v17) 1
    rw [if_neg c, decide_eq_false c, bif_f, r1, bind_s]
    exact Or.inr ⟨true, _, M', rfl, rfl, rfl, r2, r3⟩
theorem case_1712 (h : Inv n v0 v1 v3 v4 v5 v6 v8 v12 v17) (hc : c + 6 ≤ L) (hL : L ≤ 3072) : NX n c k23 (Law_1712 L xs k23 (I (c : Int)) v0 v1 v2 v3 v4 v5 v6 v7 v8 v9 v10 v11 v12 v14 v15 v16 v17 v19) := by
  have h0 := h
  unfold Law_1712
  rw [gd_t (in1 hc hL)]
  unfold L_pass
  rcases pass_ay h0 (xs (Int32.toNatClampNeg (I (c : Int) + 1))) with ⟨a, s, M', e1, e2, e3, e4⟩ | ⟨b, x, M', eb, e1, e2, e3, e4⟩
  · rw [e1, bind_s]
    unfold exC
    dsimp only
    rw [gd_t (show inB (0 : Int32) 1 = true from rfl), nmL_e, bind_s, e2, bind_s]
    unfold Mod_thrown
    rw [bind_s]
    dsimp only
    rw [e3, if_pos rfl, if_pos rfl, gd_t (show inB (0 : Int32) 1 = true from rfl), if_pos (show lg_cmp (vp_updL v19 (Int32.toNatClampNeg 0) (Int32.toInt64 a) (Int32.toNatClampNeg 0)) (Int32.toInt64 a) = 0 by rw [updL_i]; exact lg_self _), nmL_e]
    exact ⟨v0, s.1, v2, s.2.1, s.2.2, v5, v6, v7, v8, v9, v10, v11, v12, v14, v15, v16, M', _, rfl, e4⟩
  · have eb : b = true := eb
    subst eb
    rw [e1, bind_s]
    unfold exC
    dsimp only
    rw [bif_t, bind_s, e2, bind_s]
    unfold Mod_thrown
    rw [bind_s]
    dsimp only
    rw [e3, if_pos rfl, if_neg (show ¬ (1 : Int32) = 0 by decide), nmL_e]
    exact ⟨v0, v1, v2, v3, v4, v5, v6, v7, v8, v9, v10, v11, v12, v14, v15, v16, M', _, rfl, h0.keep e4⟩
/-- the best phases are adopted one by one -/
theorem adopt_loop {v : HouseV} {g0 : GWV} {b' : BestV} {t' : HouseV} {s' : SightV} {h' : HistV} {e' : Nat → HouseV} {X : ModelV} (hb : ∀ g, g < hG v → Best_phases b' g = Model_bestPhases X g) (hq : ∀ g, g < hG v → ∃ q : Nat, Best_phases b' g = I (q : Int) ∧ q < hP v g) : ∀ (q k n1 n2 ch : Nat) (w : HouseV) (f : Nat → Int32), hG v = k + q → q < n1 → q < n2 → HOK w → WE w v → RelM f w → ∃ (ch' : Nat) (w' : HouseV) (f' : Nat → Int32), GW_adopt_20 n1 (I (ch : Int)) (I (k : Int)) g0 w h' e' b' t' s' = (Option.bind (GW_markPhasesChanged g0 w') fun p74 => some (I (ch' : Int), p74.1, p74.2, h', e', b', t', s')) ∧ Mod_adopt_17 n2 (I (ch : Int)) (I (k : Int)) (Model_set_now X f) = some (I (ch' : Int), Model_set_now X f') ∧ HOK w' ∧ WE w' v ∧ RelM f' w' ∧ House_walksStamp w' = House_walksStamp w := by
  intro q
  induction q with
  | zero =>
    intro k n1 n2 ch w f hk h1 h2 hw hwe hr
    obtain ⟨n1, rfl⟩ : ∃ j, n1 = j + 1 := ⟨n1 - 1, by omega⟩
    obtain ⟨n2, rfl⟩ : ∃ j, n2 = j + 1 := ⟨n2 - 1, by omega⟩
    have hG4 : hG w ≤ 4 := hw.1.2.2.2.2.2.2.1
    have hgw : hG w = hG v := hwe.1
    have hr' : RelM (Model_now (Model_set_now X f)) w := by rw [Mo_now_now]; exact hr
    rw [GW_adopt_20, hw.1.2.2.2.2.2.1, if_pos (I_le_t (by omega) (by omega) (by omega)), Mod_adopt_17, guards_m hr' hw.1, bind_s, if_pos (I_le_t (by omega) (by omega) (by omega))]
    exact ⟨ch, w, f, rfl, rfl, hw, hwe, hr, rfl⟩
  | succ q ih =>
    intro k n1 n2 ch w f hk h1 h2 hw hwe hr
    obtain ⟨n1, rfl⟩ : ∃ j, n1 = j + 1 := ⟨n1 - 1, by omega⟩
    obtain ⟨n2, rfl⟩ : ∃ j, n2 = j + 1 := ⟨n2 - 1, by omega⟩
    have hG4 : hG w ≤ 4 := hw.1.2.2.2.2.2.2.1
    have hgw : hG w = hG v := hwe.1
    have hkw : k < hG w := by omega
    have hr' : RelM (Model_now (Model_set_now X f)) w := by rw [Mo_now_now]; exact hr
    obtain ⟨p, p1, p2⟩ := hq k (by omega)
    have p3 : p < hP w k := by rw [hwe.2.1 k (by omega)]; exact p2
    have hbk := hb k (by omega)
    have hc : (I ((125 + 12 * k : Nat) : Int)).toNatClampNeg = 125 + 12 * k := I_clamp _ (by omega)
    have hbm : Model_bestPhases (Model_set_now X f) k = I (p : Int) := by rw [Mo_bestPhases_now, ← hbk]; exact p1
    rw [GW_adopt_20, hw.1.2.2.2.2.2.1, if_neg (I_le_f (by omega) (by omega) (by omega)), if_neg (show ¬ (4 : Int32) ≤ I (k : Int) by rw [I4]; exact I_le_f (by omega) (by omega) (by omega)), gd_I (by omega) (by omega) (by omega), I_clamp k (by omega), Mod_adopt_17, guards_m hr' hw.1, bind_s, if_neg (I_le_f (by omega) (by omega) (by omega)), phaseOf_m hr' hw.1 hkw, bind_s, gd_I (by omega) (by omega) (by omega), I_clamp k (by omega), hbm, p1]
    unfold Mod_adopt_45
    by_cases c : House_phases w k = I (p : Int)
    · have hf : upd f (125 + 12 * k) (I (p : Int)) = f := by
        funext j
        rw [upd_e]
        by_cases e : j = 125 + 12 * k
        · rw [if_pos e, e, (hr.2.2.2.2.2.2 k hkw).2.1, c]
        · rw [if_neg e]
      rw [if_pos c, if_pos c, nmL_e, nmL_e, ga1, bind_s, gd_I (by omega) (by omega) (by omega), gd_I (by omega) (by omega) (by omega), I_clamp k (by omega), hbm, hc, nmL_e, nmL_e, Mo_now_now, hf, snow_self, I_succ, show I (ch : Int) + 0 = I (ch : Int) by rw [I0, I_add, Int.add_zero]]
      exact ih (k + 1) n1 n2 ch w f (by omega) (by omega) (by omega) hw hwe hr
    · obtain ⟨k1, k2, k3⟩ := setPhase_ok hw hkw p3
      have kr := k3 _ hr
      have ks : House_walksStamp (House_set_phases w (upd (House_phases w) k (I (p : Int)))) = House_walksStamp w := Ho_walksStamp_phases _ _
      rw [if_neg c, if_neg c, nmL_e, nmL_e, nmL_e, nmL_e, ga1, bind_s, gd_I (by omega) (by omega) (by omega), gd_I (by omega) (by omega) (by omega), I_clamp k (by omega), hbm, hc, nmL_e, nmL_e, Mo_now_now, snow_self, I_succ, I_succ]
      revert k1 k2 kr ks
      generalize House_set_phases w (upd (House_phases w) k (I (p : Int))) = u
      intro k1 k2 kr ks
      obtain ⟨ch', w', f', i1, i2, i3, i4, i5, i6⟩ := ih (k + 1) n1 n2 (ch + 1) u _ (by omega) (by omega) (by omega) k1 (k2.trans hwe) kr
      exact ⟨ch', w', f', i1, i2, i3, i4, i5, i6.trans ks⟩
/-- the best phases are adopted -/
theorem case_1836 (h : Inv n v0 v1 v3 v4 v5 v6 v8 v12 v17) (hnn : n ≤ 99999) : NX n c k23 (Law_1836 L xs k23 (I (c : Int)) v0 v1 v2 v3 v4 v5 v6 v7 v8 v9 v10 v11 v12 v14 v15 v16 v17 v19) := by
  obtain ⟨Φ, Ψ, ls, h', e', M1, e1, e2, e3, e4, e5, e6, e7, e8, e9, e10, e11⟩ := h.op0
  have hv := e3.1
  have hw := hv.2.2.2.2.1
  obtain ⟨X, γ, l1, l2, l3, l4⟩ := layBest_m e10 hv.1 hw
  obtain ⟨b', t', s', m1, ⟨β, m2, m3⟩, m4⟩ := best_s (g := v0) (t := v9) (s := v10) e5 e3 (by omega) ⟨γ, l4⟩
  obtain ⟨f1, f2, f3⟩ := bok_m m2 m3 l3 l4
  have hnX : Model_now X = Model_now M1 := congrArg (fun q => q.2.1) l2
  obtain ⟨ch, w', f', i1, i2, i3, i4, i5, i6⟩ := adopt_loop (g0 := v0) (b' := b') (t' := t') (s' := s') (h' := h') (e' := e') (X := X) f3 (fun g hg => ⟨β g, m2.2.2 g hg, boxM_P hw m3.1 g hg⟩) (hG v1) 0 FU FU 0 v1 (Model_now X) (by omega) (by have := hv.1.2.2.2.2.2.2.1; unfold FU; omega) (by have := hv.1.2.2.2.2.2.2.1; unfold FU; omega) hv (WE.refl v1) (by rw [hnX]; exact e10)
  obtain ⟨g', q, q1, q2, q3, q4, q5, q6, q7, q8, q9, q10, q11⟩ := mark_s i3 e1
  obtain ⟨Φ', p1, hj⟩ := e3.phases q6 q9 (q10.trans i6) (q7.trans i4)
  have i1' : GW_adopt_20 FU 0 0 v0 v1 h' e' b' t' s' = some (I (ch : Int), g', q, h', e', b', t', s') := by
    refine i1.trans ?_
    rw [q1, bind_s]
  have i2' : Mod_adopt_17 FU 0 0 X = some (I (ch : Int), Model_set_now X f') := i2
  have k1 : GW_adopt v0 v1 v3 v4 v8 v9 v10 = some (I (ch : Int), g', q, h', e', b', t', s') := by
    unfold GW_adopt
    rw [m1, bind_s, e6, bind_s]
    exact i1'
  have k2 : Mod_adopt v17 = some (I (ch : Int), Model_set_now X f') := by
    unfold Mod_adopt
    rw [nmL_e, e7, bind_s, l1, bind_s]
    exact i2'
  have hI : Inv (n + 1) g' q h' e' v5 v6 b' v12 (Model_set_now X f') := e11 Φ' Ψ (ls + 1) g' q v6 b' _ q2 (by omega) (by omega) p1 (fun _ _ => rfl) hj (by rw [Mo_now_now]; exact q11 _ i5) ((kpN_now _ _).trans (congrArg (fun q => q.2.2) l2)) q3 q4 q5 (e4.mono (by omega) p1) (m4.mono (by omega) (fun _ _ => rfl))
  unfold Law_1836
  rw [k1, bind_s, k2, bind_s]
  dsimp only
  rw [if_pos rfl, nmL_e]
  exact ⟨g', q, v2, h', e', v5, v6, v7, b', t', s', v11, v12, v14, v15, v16, _, v19, rfl, hI⟩
end CASES18
