section CASES14
variable {n c L : Nat} {k23 : K23} {xs : Nat → Int32} {v0 : GWV} {v1 v2 v5 v9 : HouseV} {v3 : HistV} {v4 : Nat → HouseV} {v6 v7 v10 : SightV} {v8 : BestV} {v11 : IntrV} {v12 : ToksV} {v14 : QReadV} {v15 v16 : Nat → Int32} {v17 M' : ModelV} {v19 : Nat → Int64}
/-- what the two answer to a call that leaves more than an answer -/
def AY {σ : Type} (E : Bool → Prop) (M : ModelV) (gw : Option (Except Bool (Int32 × σ))) (mod : Option (Int32 × ModelV)) (Po : σ → ModelV → Prop) : Prop := (∃ a s M', gw = some (.ok (a, s)) ∧ mod = some (a, M') ∧ Model_thrown M' = 0 ∧ Po s M') ∨ (∃ (b : Bool) (x : Int32) (M' : ModelV), E b ∧ gw = some (.error b) ∧ mod = some (x, M') ∧ Model_thrown M' = (if b = true then 2 else 1) ∧ kpA M' = kpA M)
/-- another phase -/
theorem setPhase_ok {v : HouseV} (hv : HOK v) {d s : Nat} (hdd : d < hG v) (hss : s < hP v d) : HOK (House_set_phases v (upd (House_phases v) d (I (s : Int)))) ∧ WE (House_set_phases v (upd (House_phases v) d (I (s : Int)))) v ∧ ∀ m : Nat → Int32, RelM m v → RelM (upd m (125 + 12 * d) (I (s : Int))) (House_set_phases v (upd (House_phases v) d (I (s : Int)))) := by
  obtain ⟨hn, hd, hj, hl, hw, hs⟩ := hv
  have hG4 : hG v ≤ 4 := hn.2.2.2.2.2.2.1
  have hR12 : hR v ≤ 12 := hn.2.2.1
  have hD20 : hD v ≤ 20 := hn.2.2.2.2.1
  have f_rooms : House_rooms (House_set_phases v (upd (House_phases v) d (I (s : Int)))) = House_rooms v := Ho_rooms_phases v _
  have f_doors : House_doors (House_set_phases v (upd (House_phases v) d (I (s : Int)))) = House_doors v := Ho_doors_phases v _
  have f_guards : House_guards (House_set_phases v (upd (House_phases v) d (I (s : Int)))) = House_guards v := Ho_guards_phases v _
  have f_minute : House_minute (House_set_phases v (upd (House_phases v) d (I (s : Int)))) = House_minute v := Ho_minute_phases v _
  have f_openDoors : House_openDoors (House_set_phases v (upd (House_phases v) d (I (s : Int)))) = House_openDoors v := Ho_openDoors_phases v _
  have f_walksStamp : House_walksStamp (House_set_phases v (upd (House_phases v) d (I (s : Int)))) = House_walksStamp v := Ho_walksStamp_phases v _
  have f_phasesStamp : House_phasesStamp (House_set_phases v (upd (House_phases v) d (I (s : Int)))) = House_phasesStamp v := Ho_phasesStamp_phases v _
  have f_doorFirst : House_doorFirst (House_set_phases v (upd (House_phases v) d (I (s : Int)))) = House_doorFirst v := Ho_doorFirst_phases v _
  have f_doorSecond : House_doorSecond (House_set_phases v (upd (House_phases v) d (I (s : Int)))) = House_doorSecond v := Ho_doorSecond_phases v _
  have f_joined : House_joined (House_set_phases v (upd (House_phases v) d (I (s : Int)))) = House_joined v := Ho_joined_phases v _
  have f_limits : House_limits (House_set_phases v (upd (House_phases v) d (I (s : Int)))) = House_limits v := Ho_limits_phases v _
  have f_periods : House_periods (House_set_phases v (upd (House_phases v) d (I (s : Int)))) = House_periods v := Ho_periods_phases v _
  have f_phases : House_phases (House_set_phases v (upd (House_phases v) d (I (s : Int)))) = upd (House_phases v) d (I (s : Int)) := Ho_phases_phases v _
  have f_walks : House_walks (House_set_phases v (upd (House_phases v) d (I (s : Int)))) = House_walks v := Ho_walks_phases v _
  have f_walked : House_walked (House_set_phases v (upd (House_phases v) d (I (s : Int)))) = House_walked v := Ho_walked_phases v _
  have f_sightings : House_sightings (House_set_phases v (upd (House_phases v) d (I (s : Int)))) = House_sightings v := Ho_sightings_phases v _
  have f_lastSeen : House_lastSeen (House_set_phases v (upd (House_phases v) d (I (s : Int)))) = House_lastSeen v := Ho_lastSeen_phases v _
  have f_runs : House_runs (House_set_phases v (upd (House_phases v) d (I (s : Int)))) = House_runs v := Ho_runs_phases v _
  have f_longestRuns : House_longestRuns (House_set_phases v (upd (House_phases v) d (I (s : Int)))) = House_longestRuns v := Ho_longestRuns_phases v _
  revert f_rooms f_doors f_guards f_minute f_openDoors f_walksStamp f_phasesStamp f_doorFirst f_doorSecond f_joined f_limits f_periods f_phases f_walks f_walked f_sightings f_lastSeen f_runs f_longestRuns
  generalize House_set_phases v (upd (House_phases v) d (I (s : Int))) = w
  intro f_rooms f_doors f_guards f_minute f_openDoors f_walksStamp f_phasesStamp f_doorFirst f_doorSecond f_joined f_limits f_periods f_phases f_walks f_walked f_sightings f_lastSeen f_runs f_longestRuns
  have gR : hR w = hR v := by unfold hR; rw [f_rooms]
  have gD : hD w = hD v := by unfold hD; rw [f_doors]
  have gG : hG w = hG v := by unfold hG; rw [f_guards]
  have gO : hO w = hO v := by unfold hO; rw [f_openDoors]
  have gP : hP w = hP v := by unfold hP; rw [f_periods]
  have hww : WFG w := by
    intro g hg
    rw [gG] at hg
    have hp := hw.per g hg
    refine ⟨wfw_c f_rooms f_periods f_walks f_walked (hw g hg).1, by rw [gP]; exact hp.1, ?_⟩
    have hf : hF w g = if g = d then s else hF v g := by
      unfold hF
      rw [f_phases, upd_e]
      by_cases e : g = d
      · have hpd := hw.per d hdd
        rw [if_pos e, if_pos e]; exact I_clamp s (by omega)
      · rw [if_neg e, if_neg e]
    rw [hf, gP, f_phases, upd_e]
    by_cases e : g = d
    · rw [if_pos e, if_pos e, e]; exact ⟨rfl, hss⟩
    · rw [if_neg e, if_neg e]; exact (hw g hg).2.2
  refine ⟨⟨wfn_c f_rooms f_doors f_guards f_minute f_openDoors hn, wfd_c f_doors f_rooms f_doorFirst f_doorSecond hd, wfj_c f_doors f_openDoors f_doorFirst f_doorSecond f_joined hj, wfl_c f_limits hl, hww, wfs_c f_minute f_sightings f_runs f_longestRuns f_lastSeen hs⟩, we_c hw f_rooms f_guards f_periods f_walks, fun m hr => ?_⟩
  obtain ⟨a1, a2, a3, a4, a5, a6, a7⟩ := hr
  unfold RelM
  rw [gO, gD, gG, gP, f_rooms, f_doors, f_guards, f_minute, f_doorFirst, f_doorSecond, f_limits, f_periods, f_phases, f_walks, f_sightings, f_lastSeen, f_runs, f_longestRuns]
  rw [upd_n (by omega), upd_n (by omega), upd_n (by omega), upd_n (by omega)]
  refine ⟨a1, a2, a3, a4, fun r hr => ?_, fun q hq => ?_, fun g hg => ?_⟩
  · rw [upd_n (by omega), upd_n (by omega), upd_n (by omega), upd_n (by omega), upd_n (by omega)]
    exact a5 r hr
  · rw [upd_n (by omega), upd_n (by omega), upd_n (by omega)]
    exact a6 q hq
  · obtain ⟨b1, b2, b3⟩ := a7 g hg
    have hp := hw.per g hg
    rw [upd_n (by omega), upd_e, upd_e]
    refine ⟨b1, ?_, fun s hs => by rw [upd_n (by omega)]; exact b3 s hs⟩
    by_cases e : g = d
    · rw [if_pos e, if_pos (by omega)]
    · rw [if_neg e, if_neg (by omega)]
      exact b2
theorem needPhase_s {v : HouseV} (hw : WFG v) {d : Nat} (hd : d < hG v) {w : Int} (w1 : -2147483648 ≤ w) (w2 : w ≤ 2147483647) : GW_needRange (I w) 0 (House_periods v d - 1) = some (if 0 ≤ w ∧ w ≤ (hP v d : Int) - 1 then .ok () else .error true) := by
  have hp := hw.per d hd
  rw [(hw d hd).1.1, I1, I_sub]
  exact needRange_s (lo := 0) w1 w2 (by omega) (by omega) (by omega) (by omega)
theorem isPhase_m {v : HouseV} {M : ModelV} (hr : RelM (Model_now M) v) (hn : WFn v) (hw : WFG v) {d : Nat} (hd : d < hG v) {w : Int} (w1 : -2147483648 ≤ w) (w2 : w ≤ 2147483647) : Mod_isPhase (I (d : Int)) (I w) M = some (decide (0 ≤ w ∧ w ≤ (hP v d : Int) - 1)) := by
  have hp := hw.per d hd
  have e : Mod_inRange (I w) 0 (I ((hP v d : Int) - 1)) = some (decide (0 ≤ w ∧ w ≤ (hP v d : Int) - 1)) := inRange_s (a := 0) w1 w2 (by omega) (by omega) (by omega) (by omega)
  unfold Mod_isPhase
  rw [period_m hr hn hd, bind_s, (hw d hd).1.1, I1, I_sub, e, bind_s]
theorem setph_sw {t v : HouseV} (hc : HC t v) (hn : WFn v) (hw : WFG v) (d : Nat) (x : Int32) : SW (House_set_phases t (upd (House_phases t) d x)) (House_set_phases v (upd (House_phases v) d x)) := by
  have hG4 : hG v ≤ 4 := hn.2.2.2.2.2.2.1
  refine ⟨by rw [sp_R, sp_R]; exact hc_R hc, by rw [sp_G, sp_G]; exact hc_G hc, fun g hg => ?_⟩
  rw [sp_G, hc_G hc] at hg
  have hp := hw.per g hg
  have hu : upd (House_phases t) d x g = upd (House_phases v) d x g := by rw [upd_e, upd_e, (hc.2.2.2.2.2.2.2.2.2.1 g (by omega)).2.1]
  refine ⟨by rw [sp_P, sp_P]; exact hc_P hc (by omega), fun u => ?_⟩
  rw [sp_pl, sp_pl, hc_P hc (by omega), hu]
  exact hc_W hc (by omega) (Nat.lt_of_lt_of_le (Nat.mod_lt _ (by omega)) hp.2)
/-- the worst gap with another phase -/
theorem worstWith_ay {v : HouseV} {M : ModelV} (hv : HOK v) (hr : RelM (Model_now M) v) (g : GWV) (t : HouseV) (s0 : SightV) (x y : Int32) : AY (fun _ => True) M (GW_worstWith x y g v t s0) (Mod_worstWith x y M) (fun _ M' => kpA M' = kpA M) := by
  obtain ⟨P, t1, p1, p2, p3, p4⟩ := taken_m hv hr
  have hv0 := hv
  obtain ⟨hn, hd, hj, hl, hw, hs⟩ := hv
  have hG4 : hG v ≤ 4 := hn.2.2.2.2.2.2.1
  obtain ⟨z, rfl, z1, z2⟩ := sel32 x
  obtain ⟨w, rfl, w1, w2⟩ := sel32 y
  unfold GW_worstWith Mod_worstWith
  rw [needGuard_s hn z1 z2, bind_s, isGuard_m hr hn z1 z2, bind_s]
  by_cases c : 0 ≤ z ∧ z < hG v
  · obtain ⟨d, rfl⟩ : ∃ d : Nat, z = (d : Int) := ⟨z.toNat, by omega⟩
    have hdd : d < hG v := by omega
    rw [if_pos c, decide_eq_true c, bif_t]
    unfold exK Mod_worstWith_27
    dsimp only
    rw [gd_I (by omega) (by omega) (by omega), I_clamp d (by omega), needPhase_s hw hdd w1 w2, bind_s, isPhase_m hr hn hw hdd w1 w2, bind_s]
    by_cases c2 : 0 ≤ w ∧ w ≤ (hP v d : Int) - 1
    · obtain ⟨s, rfl⟩ : ∃ d : Nat, w = (d : Int) := ⟨w.toNat, by omega⟩
      have hss : s < hP v d := by omega
      obtain ⟨k1, k2, k3⟩ := setPhase_ok hv0 hdd hss
      have kw := k1.2.2.2.2.1
      have kn := k1.1
      obtain ⟨t', ht, hc⟩ := copyFrom_s t v
      have hsw := setph_sw hc hn hw d (I (s : Int))
      have hn' : WFn (House_set_phases t' (upd (House_phases t') d (I (s : Int)))) := sp_n _ (hc_n hc hn)
      have hw' : WFG (House_set_phases t' (upd (House_phases t') d (I (s : Int)))) := by
        intro q hq
        rw [sp_G, hc_G hc] at hq
        have hg := kw q (by rw [sp_G]; exact hq)
        have hq' := hc_wfg hc (by omega) (hw q hq)
        have hu : upd (House_phases t') d (I (s : Int)) q = upd (House_phases v) d (I (s : Int)) q := by rw [upd_e, upd_e, (hc.2.2.2.2.2.2.2.2.2.1 q (by omega)).2.1]
        obtain ⟨g1, g2, g3, g4⟩ := hg
        refine ⟨sp_w _ hq'.1, by rw [sp_P]; exact hq'.2.1, ?_, ?_⟩
        · rw [sp_ph, sp_F, hu]
          rw [sp_ph, sp_F] at g3
          exact g3
        · rw [sp_F, sp_P, hu, hc_P hc (by omega)]
          rw [sp_F, sp_P] at g4
          exact g4
      obtain ⟨s1, m1, m2, m3⟩ := measure_s hn' hw' s0
      have hph : PhM (Model_set_phases P (upd (Model_phases P) d (I (s : Int)))) v (hF (House_set_phases v (upd (House_phases v) d (I (s : Int))))) := by
        intro q hq
        obtain ⟨g1, g2, g3, g4⟩ := kw q (by rw [sp_G]; exact hq)
        rw [sp_P] at g4
        refine ⟨?_, g4⟩
        rw [← g3, sp_ph, Mo_phases_phases, upd_e, upd_e]
        by_cases e : q = d
        · rw [if_pos e, if_pos e]
        · rw [if_neg e, if_neg e]
          exact (p2 q hq).1.trans (hw q hq).2.2.1.symm
      obtain ⟨Y, y1, y2, y3, y4, y5, y6, y7, y8, y9⟩ := lay_all (X := Model_set_phases P (upd (Model_phases P) d (I (s : Int)))) (p := upd (House_phases v) d (I (s : Int))) ⟨rel_ph p1, hn, hw, kw, hph⟩
      have ky : kp Y = kp P := y2.trans (kp_phases P _)
      rw [if_pos c2, decide_eq_true c2, bif_t]
      dsimp only
      rw [ht, bind_s, nmL_e, m1, bind_s, nmL_e, if_pos (Mo_thrown_thrown M 0), t1, bind_s, gd_I (by omega) (by omega) (by omega), nmL_e, y1, bind_s, y8, bind_s, m2.2, sw_worst hsw]
      exact Or.inl ⟨_, _, Y, rfl, rfl, (congrArg (fun q => q.1) ky).trans p3, (congrArg (fun q => q.2) ky).trans p4⟩
    · rw [if_neg c2, decide_eq_false c2, bif_f]
      dsimp only
      rw [nmL_e, if_neg (thr_no (by decide))]
      exact Or.inr ⟨true, _, _, trivial, rfl, rfl, Mo_thrown_thrown _ _, kpA_thr _ _⟩
  · rw [if_neg c, decide_eq_false c, bif_f]
    unfold exK Mod_worstWith_27
    dsimp only
    rw [nmL_e, if_neg (thr_no (by decide))]
    exact Or.inr ⟨false, _, _, trivial, rfl, rfl, Mo_thrown_thrown _ _, kpA_thr _ _⟩
theorem case_1305 (h : Inv n v0 v1 v3 v4 v5 v6 v8 v12 v17) (hc : c + 6 ≤ L) (hL : L ≤ 3072) : NX n c k23 (Law_1305 L xs k23 (I (c : Int)) v0 v1 v2 v3 v4 v5 v6 v7 v8 v9 v10 v11 v12 v14 v15 v16 v17 v19) := by
  have h0 := h
  obtain ⟨Φ, Ψ, ls, b, len, a1, a2, a3, a4, a5, a6, a7, a8, a9, a10, a11, a12, a13⟩ := h
  unfold Law_1305
  rw [gd_t (in1 hc hL), gd_t (in2 hc hL)]
  unfold L_worstWith
  rcases worstWith_ay a3.1 a4 v0 v2 v7 (xs (Int32.toNatClampNeg (I (c : Int) + 1))) (xs (Int32.toNatClampNeg (I (c : Int) + 2))) with ⟨a, s, M', e1, e2, e3, e4⟩ | ⟨b, x, M', eb, e1, e2, e3, e4⟩
  · rw [e1, bind_s]
    unfold exC
    dsimp only
    rw [gd_t (show inB (0 : Int32) 1 = true from rfl), nmL_e, bind_s, e2, bind_s]
    unfold Mod_thrown
    rw [bind_s]
    dsimp only
    rw [e3, if_pos rfl, if_pos rfl, gd_t (show inB (0 : Int32) 1 = true from rfl), if_pos (show lg_cmp (vp_updL v19 (Int32.toNatClampNeg 0) (Int32.toInt64 a) (Int32.toNatClampNeg 0)) (Int32.toInt64 a) = 0 by rw [updL_i]; exact lg_self _), nmL_e]
    exact ⟨v0, v1, s.1, v3, v4, v5, v6, s.2, v8, v9, v10, v11, v12, v14, v15, v16, M', _, rfl, h0.keep e4⟩
  · rw [e1, bind_s]
    unfold exC
    dsimp only
    cases b
    · rw [bif_f, bind_s, e2, bind_s]
      unfold Mod_thrown
      rw [bind_s]
      dsimp only
      rw [e3, if_neg (show ¬ (false = true) by decide), if_pos rfl, if_neg (show ¬ (1 : Int32) = 0 by decide), nmL_e]
      exact ⟨v0, v1, v2, v3, v4, v5, v6, v7, v8, v9, v10, v11, v12, v14, v15, v16, M', _, rfl, h0.keep e4⟩
    · rw [bif_t, bind_s, e2, bind_s]
      unfold Mod_thrown
      rw [bind_s]
      dsimp only
      rw [e3, if_pos (show true = true from rfl), if_pos rfl, if_neg (show ¬ (2 : Int32) = 0 by decide), nmL_e]
      exact ⟨v0, v1, v2, v3, v4, v5, v6, v7, v8, v9, v10, v11, v12, v14, v15, v16, M', _, rfl, h0.keep e4⟩
/-- the best phases of the two -/
theorem Inv.best (h : Inv n v0 v1 v3 v4 v5 v6 v8 v12 v17) (hn : n ≤ 100000) : ∃ b' t' s' X', GW_best v0 v1 v8 v9 v10 = some (b', t', s') ∧ Mod_layBest (Model_set_thrown v17 0) = some X' ∧ Best_worst b' = Model_leastWorst X' ∧ Best_crossings b' = Model_leastCrossings X' ∧ (∀ g, g < hG v1 → Best_phases b' g = Model_bestPhases X' g) ∧ (∀ g, g < hG v1 → ∃ q : Nat, Best_phases b' g = I (q : Int) ∧ q < hP v1 g) ∧ Model_thrown X' = 0 ∧ kpA X' = kpA v17 ∧ Inv n v0 v1 v3 v4 v5 v6 b' v12 v17 := by
  obtain ⟨Φ, Ψ, ls, b, len, a1, a2, a3, a4, a5, a6, a7, a8, a9, a10, a11, a12, a13⟩ := h
  obtain ⟨hv, hr0⟩ : HOK v1 ∧ RelM (Model_now (Model_set_thrown v17 0)) v1 := ⟨a3.1, by rw [Mo_now_thrown]; exact a4⟩
  have hw := hv.2.2.2.2.1
  obtain ⟨X', γ, l1, l2, l3, l4⟩ := layBest_m (M := Model_set_thrown v17 0) hr0 hv.1 hw
  obtain ⟨b', t', s', e1, ⟨β, b1, b2⟩, e3⟩ := best_s (g := v0) (t := v9) (s := v10) a13 a3 (by omega) ⟨γ, l4⟩
  obtain ⟨f1, f2, f3⟩ := bok_m b1 b2 l3 l4
  refine ⟨b', t', s', X', e1, l1, f1, f2, f3, fun g hg => ⟨β g, b1.2.2 g hg, boxM_P hw b2.1 g hg⟩, (congrArg (fun q => q.1) l2).trans (Mo_thrown_thrown v17 0), (congrArg (fun q => q.2) l2).trans (kpA_thr v17 0), Φ, Ψ, ls, b, len, a1, a2, a3, a4, a5, a6, a7, a8, a9, a10, a11, a12, e3⟩
theorem case_1373 (h : Inv n v0 v1 v3 v4 v5 v6 v8 v12 v17) (hn : n ≤ 100000) : NX n c k23 (Law_1373 L xs k23 (I (c : Int)) v0 v1 v2 v3 v4 v5 v6 v7 v8 v9 v10 v11 v12 v14 v15 v16 v17 v19) := by
  obtain ⟨b', t', s', X', e1, e2, e3, e4, e5, e6, e7, e8, e9⟩ := h.best (v9 := v9) (v10 := v10) hn
  unfold Law_1373 GW_bestWorst Mod_bestWorst
  rw [e1, bind_s, bind_s, nmL_e, e2, bind_s, bind_s]
  dsimp only
  rw [if_pos e3, nmL_e]
  exact ⟨v0, v1, v2, v3, v4, v5, v6, v7, b', t', s', v11, v12, v14, v15, v16, X', v19, rfl, e9.keep e8⟩
theorem case_1386 (h : Inv n v0 v1 v3 v4 v5 v6 v8 v12 v17) (hn : n ≤ 100000) : NX n c k23 (Law_1386 L xs k23 (I (c : Int)) v0 v1 v2 v3 v4 v5 v6 v7 v8 v9 v10 v11 v12 v14 v15 v16 v17 v19) := by
  obtain ⟨b', t', s', X', e1, e2, e3, e4, e5, e6, e7, e8, e9⟩ := h.best (v9 := v9) (v10 := v10) hn
  unfold Law_1386 GW_bestCrossings Mod_bestCrossings
  rw [e1, bind_s, bind_s, nmL_e, e2, bind_s, bind_s]
  dsimp only
  rw [if_pos e4, nmL_e]
  exact ⟨v0, v1, v2, v3, v4, v5, v6, v7, b', t', s', v11, v12, v14, v15, v16, X', v19, rfl, e9.keep e8⟩
/-- the best phase of a guard -/
theorem bestPhase_ay (h : Inv n v0 v1 v3 v4 v5 v6 v8 v12 v17) (hn : n ≤ 100000) (x : Int32) : AY (fun b => b = false) v17 (GW_bestPhase x v0 v1 v8 v9 v10) (Mod_bestPhase x v17) (fun s M' => Inv (n + 1) v0 v1 v3 v4 v5 v6 s.1 v12 M') := by
  have h0 := h
  obtain ⟨Φ, Ψ, ls, b, len, a1, a2, a3, a4, -⟩ := h
  have hv := a3.1
  have hG4 : hG v1 ≤ 4 := hv.1.2.2.2.2.2.2.1
  have hr0 : RelM (Model_now (Model_set_thrown v17 0)) v1 := by rw [Mo_now_thrown]; exact a4
  obtain ⟨z, rfl, z1, z2⟩ := sel32 x
  unfold GW_bestPhase Mod_bestPhase
  rw [needGuard_s hv.1 z1 z2, bind_s, nmL_e, isGuard_m hr0 hv.1 z1 z2, bind_s]
  by_cases c : 0 ≤ z ∧ z < hG v1
  · obtain ⟨d, rfl⟩ : ∃ d : Nat, z = (d : Int) := ⟨z.toNat, by omega⟩
    have hdd : d < hG v1 := by omega
    obtain ⟨b', t', s', X', e1, e2, e3, e4, e5, e6, e7, e8, e9⟩ := h0.best (v9 := v9) (v10 := v10) hn
    rw [if_pos c, decide_eq_true c, bif_t, e2, bind_s]
    unfold exK
    dsimp only
    rw [e1, bind_s, gd_I (by omega) (by omega) (by omega), gd_I (by omega) (by omega) (by omega), I_clamp d (by omega), e5 d hdd]
    exact Or.inl ⟨_, (b', t', s'), X', rfl, rfl, e7, e9.keep e8⟩
  · obtain ⟨M', r1, r2, r3⟩ := raise_ax (M := v17) 1
    rw [if_neg c, decide_eq_false c, bif_f, r1, bind_s]
    exact Or.inr ⟨false, _, M', rfl, rfl, rfl, r2, r3⟩
theorem case_1399 (h : Inv n v0 v1 v3 v4 v5 v6 v8 v12 v17) (hn : n ≤ 100000) (hc : c + 6 ≤ L) (hL : L ≤ 3072) : NX n c k23 (Law_1399 L xs k23 (I (c : Int)) v0 v1 v2 v3 v4 v5 v6 v7 v8 v9 v10 v11 v12 v14 v15 v16 v17 v19) := by
  have h0 := h
  unfold Law_1399
  rw [gd_t (in1 hc hL)]
  unfold L_bestPhase
  rcases bestPhase_ay (v9 := v9) (v10 := v10) h0 hn (xs (Int32.toNatClampNeg (I (c : Int) + 1))) with ⟨a, s, M', e1, e2, e3, e4⟩ | ⟨b, x, M', eb, e1, e2, e3, e4⟩
  · rw [e1, bind_s]
    unfold exC
    dsimp only
    rw [gd_t (show inB (0 : Int32) 1 = true from rfl), nmL_e, bind_s, e2, bind_s]
    unfold Mod_thrown
    rw [bind_s]
    dsimp only
    rw [e3, if_pos rfl, if_pos rfl, gd_t (show inB (0 : Int32) 1 = true from rfl), if_pos (show lg_cmp (vp_updL v19 (Int32.toNatClampNeg 0) (Int32.toInt64 a) (Int32.toNatClampNeg 0)) (Int32.toInt64 a) = 0 by rw [updL_i]; exact lg_self _), nmL_e]
    exact ⟨v0, v1, v2, v3, v4, v5, v6, v7, s.1, s.2.1, s.2.2, v11, v12, v14, v15, v16, M', _, rfl, e4⟩
  · have eb : b = false := eb
    subst eb
    rw [e1, bind_s]
    unfold exC
    dsimp only
    rw [bif_f, bind_s, e2, bind_s]
    unfold Mod_thrown
    rw [bind_s]
    dsimp only
    rw [e3, if_neg (show ¬ (false = true) by decide), if_pos rfl, if_neg (show ¬ (1 : Int32) = 0 by decide), nmL_e]
    exact ⟨v0, v1, v2, v3, v4, v5, v6, v7, v8, v9, v10, v11, v12, v14, v15, v16, M', _, rfl, h0.keep e4⟩
end CASES14
