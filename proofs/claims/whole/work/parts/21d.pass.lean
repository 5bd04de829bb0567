section PASS2
theorem hS_e {v : HouseV} (hn : WFn v) (hs : WFs v) {r : Nat} (hr : r < 12) : House_sightings v r = I (hS v r) ∧ 0 ≤ hS v r ∧ hS v r ≤ hM v := by
  have hm : hM v ≤ 99999 := hn.2.2.2.2.2.2.2.2.1
  obtain ⟨a, b, c, d, h1, h2, -⟩ := hs r hr
  unfold hS
  rw [h1, I_clamp a (by omega)]
  exact ⟨rfl, by omega, by omega⟩
theorem countSightings_s {v : HouseV} (hn : WFn v) (hs : WFs v) : House_countSightings v = some (I (sumS v)) := by
  have hR12 : hR v ≤ 12 := hn.2.2.1
  have eR : House_rooms v = I (hR v) := hn.1
  have key : ∀ (q k n : Nat), hR v = k + q → q < n → House_countSightings_4 v n (I (sumTo (hS v) k)) (I (k : Int)) = some (I (sumS v)) := by
    intro q
    induction q with
    | zero =>
      intro k n hk hm
      obtain ⟨n, rfl⟩ : ∃ q, n = q + 1 := ⟨n - 1, by omega⟩
      rw [House_countSightings_4, eR, if_pos (I_le_t (by omega) (by omega) (by omega)), sumS, show k = hR v by omega]
    | succ q ih =>
      intro k n hk hm
      obtain ⟨n, rfl⟩ : ∃ q, n = q + 1 := ⟨n - 1, by omega⟩
      rw [House_countSightings_4, eR, if_neg (I_le_f (by omega) (by omega) (by omega)), I12, if_neg (I_le_f (by omega) (by omega) (by omega)), gd_I (by omega) (by omega) (by omega), nmL_e, nmL_e, I_clamp k (by omega), (hS_e hn hs (by omega)).1, I_add, I_succ]
      exact ih (k + 1) n (by omega) (by omega)
  unfold House_countSightings
  exact key (hR v) 0 FU (by omega) (by unfold FU; omega)
theorem sightings_m {M : ModelV} {v : HouseV} (hr : RelM (Model_now M) v) (hn : WFn v) (hs : WFs v) : Mod_sightings M = some (I (sumS v)) := by
  have hR12 : hR v ≤ 12 := hn.2.2.1
  have key : ∀ (q k n : Nat), hR v = k + q → q < n → Mod_sightings_4 M n (I (sumTo (hS v) k)) (I (k : Int)) = some (I (sumS v)) := by
    intro q
    induction q with
    | zero =>
      intro k n hk hm
      obtain ⟨n, rfl⟩ : ∃ q, n = q + 1 := ⟨n - 1, by omega⟩
      rw [Mod_sightings_4, rooms_m hr hn, bind_s, if_pos (I_le_t (by omega) (by omega) (by omega)), sumS, show k = hR v by omega]
    | succ q ih =>
      intro k n hk hm
      obtain ⟨n, rfl⟩ : ∃ q, n = q + 1 := ⟨n - 1, by omega⟩
      rw [Mod_sightings_4, rooms_m hr hn, bind_s, if_neg (I_le_f (by omega) (by omega) (by omega)), show (1 : Int32) = I ((1 : Nat) : Int) from rfl, ofRoom_m (by omega) (by omega), bind_s, nmL_e, nmL_e, show 4 + 5 * k + 1 = 5 + 5 * k by omega, (hr.2.2.2.2.1 k (by omega)).2.1, (hS_e hn hs (by omega)).1, I_add, show (I ((1 : Nat) : Int) : Int32) = 1 from rfl, I_succ]
      exact ih (k + 1) n (by omega) (by omega)
  unfold Mod_sightings
  exact key (hR v) 0 FU (by omega) (by unfold FU; omega)
theorem sumTo_cnt {f g : Nat → Int} {p : Nat → Bool} {n : Nat} (h : ∀ r, r < n → g r = f r + (bif p r then 1 else 0)) : sumTo g n = sumTo f n + cnt p n := by
  induction n with
  | zero => rfl
  | succ n ih =>
    rw [show sumTo g (n + 1) = sumTo g n + g n from rfl, show sumTo f (n + 1) = sumTo f n + f n from rfl, show cnt p (n + 1) = cnt p n + (bif p n then 1 else 0) from rfl, ih fun r hr => h r (by omega), h n (by omega)]
    cases p n
    · rw [bif_f, bif_f]; omega
    · rw [bif_t, bif_t]; omega
/-- the minute goes on -/
theorem rel_min {m : Nat → Int32} {v : HouseV} (hn : WFn v) (hr : RelM m v) (x : Int32) : RelM (upd m 3 x) (House_set_minute v x) := by
  have gO : hO (House_set_minute v x) = hO v := by unfold hO; rw [Ho_openDoors_minute]
  have gD : hD (House_set_minute v x) = hD v := by unfold hD; rw [Ho_doors_minute]
  have gG : hG (House_set_minute v x) = hG v := by unfold hG; rw [Ho_guards_minute]
  have gP : hP (House_set_minute v x) = hP v := by unfold hP; rw [Ho_periods_minute]
  obtain ⟨a1, a2, a3, a4, a5, a6, a7⟩ := hr
  unfold RelM
  rw [gO, gD, gG, gP, Ho_rooms_minute, Ho_doors_minute, Ho_guards_minute, Ho_minute_minute, Ho_limits_minute, Ho_sightings_minute, Ho_lastSeen_minute, Ho_runs_minute, Ho_longestRuns_minute, Ho_doorFirst_minute, Ho_doorSecond_minute, Ho_periods_minute, Ho_phases_minute, Ho_walks_minute, upd_n (by omega), upd_n (by omega), upd_n (by omega), upd_i]
  refine ⟨a1, a2, a3, rfl, fun r hr => ?_, fun q hq => ?_, fun g hg => ?_⟩
  · rw [upd_n (by omega), upd_n (by omega), upd_n (by omega), upd_n (by omega), upd_n (by omega)]
    exact a5 r hr
  · rw [upd_n (by omega), upd_n (by omega), upd_n (by omega)]
    exact a6 q hq
  · obtain ⟨b1, b2, b3⟩ := a7 g hg
    rw [upd_n (by omega), upd_n (by omega)]
    exact ⟨b1, b2, fun s hs => by rw [upd_n (by omega)]; exact b3 s hs⟩
theorem sgm_min {w v : HouseV} (x : Int32) (h : SGm w v) : SGm (House_set_minute w x) v := by
  unfold SGm at h ⊢
  rw [Ho_rooms_minute, Ho_doors_minute, Ho_guards_minute, Ho_openDoors_minute, Ho_walksStamp_minute, Ho_phasesStamp_minute, Ho_doorFirst_minute, Ho_doorSecond_minute, Ho_joined_minute, Ho_limits_minute, Ho_periods_minute, Ho_phases_minute, Ho_walks_minute, Ho_walked_minute]
  exact h
theorem ph_sw {M : ModelV} {w v : HouseV} (h : SGm w v) (hp : PhM M v (hF v)) : PhM M w (hF w) := by
  intro g hg
  have gG : hG w = hG v := by unfold hG; rw [h.2.2.1]
  have gP : hP w = hP v := by unfold hP; rw [h.2.2.2.2.2.2.2.2.2.2.1]
  have gF : hF w = hF v := by unfold hF; rw [h.2.2.2.2.2.2.2.2.2.2.2.1]
  rw [gG] at hg
  rw [gP, gF]
  exact hp g hg
theorem snow_ph (M : ModelV) (f : Nat → Int32) : Model_phases (Model_set_now M f) = Model_phases M := Mo_phases_now M f
/-- a minute passes, in class and model -/
theorem pass_minute {M : ModelV} {w : HouseV} {f : Nat → Int32} (hv : HOK w) (hr : RelM f w) (hp : PhM M w (hF w)) (hM9 : hM w < 99999) {x1 x2 x3 : Int32} {k54 : Int32 → ModelV → Option (Int32 × ModelV)} : ∃ w' f', House_passMinute w = some (I ((cnt (seen w (hM w)).testBit (hR w) : Nat) : Int), w') ∧ (Option.bind (Mod_seenAt (Model_now (Model_set_now M f) (Int32.toNatClampNeg 3)) (Model_set_now M f)) fun p66 => Mod_pass_74 x1 x2 x3 p66 k54 FU 0 (Model_set_now M f)) = k54 (x3 + 1) (Model_set_now M f') ∧ HOK w' ∧ RelM f' w' ∧ SGm w' w ∧ hM w' = hM w + 1 ∧ sumS w' = sumS w + cnt (seen w (hM w)).testBit (hR w) := by
  obtain ⟨hn, hd, hj, hl, hw, hs⟩ := id hv
  have hR12 : hR w ≤ 12 := hn.2.2.1
  have eM : House_minute w = I (hM w : Int) := hn.2.2.2.2.2.2.2.1
  have hsl := seen_lt hw (hM w)
  obtain ⟨w1, f1, p1, p2, sg, mi, rl, bo, su⟩ := pass_rooms (M := M) hv hsl (x1 := x1) (x2 := x2) (x3 := x3) (k54 := k54) (hR w) 0 FU FU w f (by omega) (by unfold FU; omega) (by unfold FU; omega) (SGm.refl w) rfl hr (fun r _ _ => ⟨rfl, rfl, rfl, rfl⟩) (fun r h => wfb_mono (hs r h) (by omega)) (fun r h => absurd h (by omega))
  have eR : hR w1 = hR w := by unfold hR; rw [sg.1]
  have hn1 : WFn w1 := wfn_c sg.1 sg.2.1 sg.2.2.1 mi sg.2.2.2.1 hn
  have hm1 : hM (House_set_minute w1 (I ((hM w + 1 : Nat) : Int))) = hM w + 1 := by
    unfold hM
    rw [Ho_minute_minute]
    exact I_clamp _ (by unfold hM at hM9; omega)
  refine ⟨House_set_minute w1 (I ((hM w + 1 : Nat) : Int)), upd f1 3 (I ((hM w + 1 : Nat) : Int)), ?_, ?_, ?_, rel_min hn1 rl _, sgm_min _ sg, hm1, ?_⟩
  · unfold House_passMinute
    rw [eM, roomsSeenAt_s hn hw (by omega), bind_s, I_zero, p1]
    unfold House_passMinute_100
    rw [nmL_e, mi, eM, I_succ, bitCount_n hsl (by omega), bind_s]
  · have hnow : Model_now (Model_set_now M f) (Int32.toNatClampNeg 3) = I (hM w : Int) := by
      rw [Mo_now_now, show Int32.toNatClampNeg 3 = 3 from rfl, hr.2.2.2.1, eM]
    rw [hnow, seenm (M := Model_set_now M f) (by rw [Mo_now_now]; exact hr) hn hw (fun g hg => by rw [snow_ph]; exact hp g hg) (by omega), bind_s, I_zero, p2, rl.2.2.2.1, mi, eM, I_succ]
  · have hd1 := wfd_c sg.2.1 sg.1 sg.2.2.2.2.2.2.1 sg.2.2.2.2.2.2.2.1 hd
    refine ⟨?_, wfd_c (Ho_doors_minute _ _) (Ho_rooms_minute _ _) (Ho_doorFirst_minute _ _) (Ho_doorSecond_minute _ _) hd1, ?_, ?_, ?_, ?_⟩
    · have gR : hR (House_set_minute w1 (I ((hM w + 1 : Nat) : Int))) = hR w1 := by unfold hR; rw [Ho_rooms_minute]
      have gD : hD (House_set_minute w1 (I ((hM w + 1 : Nat) : Int))) = hD w1 := by unfold hD; rw [Ho_doors_minute]
      have gG : hG (House_set_minute w1 (I ((hM w + 1 : Nat) : Int))) = hG w1 := by unfold hG; rw [Ho_guards_minute]
      have gO : hO (House_set_minute w1 (I ((hM w + 1 : Nat) : Int))) = hO w1 := by unfold hO; rw [Ho_openDoors_minute]
      obtain ⟨a1, a2, a3, a4, a5, a6, a7, a8, a9, a10, a11⟩ := hn1
      unfold WFn
      rw [hm1, gR, gD, gG, gO, Ho_rooms_minute, Ho_doors_minute, Ho_guards_minute, Ho_minute_minute, Ho_openDoors_minute]
      exact ⟨a1, a2, a3, a4, a5, a6, a7, rfl, by omega, a10, a11⟩
    · exact wfj_c (Ho_doors_minute _ _) (Ho_openDoors_minute _ _) (Ho_doorFirst_minute _ _) (Ho_doorSecond_minute _ _) (Ho_joined_minute _ _) (wfj_c sg.2.1 sg.2.2.2.1 sg.2.2.2.2.2.2.1 sg.2.2.2.2.2.2.2.1 sg.2.2.2.2.2.2.2.2.1 hj)
    · exact wfl_c (Ho_limits_minute _ _) (wfl_c sg.2.2.2.2.2.2.2.2.2.1 hl)
    · exact wfG_c (Ho_rooms_minute _ _) (Ho_guards_minute _ _) (Ho_periods_minute _ _) (Ho_phases_minute _ _) (Ho_walks_minute _ _) (Ho_walked_minute _ _) (wfG_c sg.1 sg.2.2.1 sg.2.2.2.2.2.2.2.2.2.2.1 sg.2.2.2.2.2.2.2.2.2.2.2.1 sg.2.2.2.2.2.2.2.2.2.2.2.2.1 sg.2.2.2.2.2.2.2.2.2.2.2.2.2 hw)
    · intro r hr12
      have := bo r hr12
      unfold WFb at this
      rw [hm1, Ho_sightings_minute, Ho_runs_minute, Ho_longestRuns_minute, Ho_lastSeen_minute]
      exact this
  · have e1 : hS (House_set_minute w1 (I ((hM w + 1 : Nat) : Int))) = hS w1 := by funext r; unfold hS; rw [Ho_sightings_minute]
    have e2 : hR (House_set_minute w1 (I ((hM w + 1 : Nat) : Int))) = hR w := by unfold hR; rw [Ho_rooms_minute, sg.1]
    unfold sumS
    rw [e1, e2]
    exact sumTo_cnt su
theorem pass_minutes {M : ModelV} {v : HouseV} {v0 : GWV} {v2 : HistV} {v3 : Nat → HouseV} (hp : PhM M v (hF v)) {mins : Nat} {S0 : Int} (hmin : mins ≤ 500) : ∀ (q k n1 n2 : Nat) (w : HouseV) (f : Nat → Int32), mins = k + q → q < n1 → q < n2 → HOK w → RelM f w → SGm w v → hM w + q ≤ 99999 → ∃ w' f', GW_pass_41 (I (mins : Int)) v0 n1 (I (sumS w - S0)) (I (k : Int)) w v2 v3 = some (.ok (I (sumS w' - S0), w', v2, v3)) ∧ Mod_pass_54 (I (mins : Int)) (I S0) n2 (I (k : Int)) (Model_set_now M f) = some (I (sumS w' - S0), Model_set_now M f') ∧ HOK w' ∧ RelM f' w' ∧ SGm w' v := by
  intro q
  induction q with
  | zero =>
    intro k n1 n2 w f hk h1 h2 hv hr sg hM9
    obtain ⟨n1, rfl⟩ : ∃ q, n1 = q + 1 := ⟨n1 - 1, by omega⟩
    obtain ⟨n2, rfl⟩ : ∃ q, n2 = q + 1 := ⟨n2 - 1, by omega⟩
    refine ⟨w, f, ?_, ?_, hv, hr, sg⟩
    · rw [GW_pass_41, if_pos (I_le_t (by omega) (by omega) (by omega))]
    · rw [Mod_pass_54, if_pos (I_le_t (by omega) (by omega) (by omega)), sightings_m (M := Model_set_now M f) (by rw [Mo_now_now]; exact hr) hv.1 hv.2.2.2.2.2, bind_s, I_sub]
  | succ q ih =>
    intro k n1 n2 w f hk h1 h2 hv hr sg hM9
    obtain ⟨n1, rfl⟩ : ∃ q, n1 = q + 1 := ⟨n1 - 1, by omega⟩
    obtain ⟨n2, rfl⟩ : ∃ q, n2 = q + 1 := ⟨n2 - 1, by omega⟩
    obtain ⟨w1, f1, e1, e2, o1, r1, sg1, m1, s1⟩ := pass_minute (M := M) hv hr (ph_sw sg hp) (by omega) (x1 := I (mins : Int)) (x2 := I S0) (x3 := I (k : Int)) (k54 := fun (x3 : Int32) (v0 : ModelV) => Mod_pass_54 (I (mins : Int)) (I S0) n2 x3 v0)
    obtain ⟨w', f', g1, g2, g3⟩ := ih (k + 1) n1 n2 w1 f1 (by omega) (by omega) (by omega) o1 r1 (sgm_trans sg1 sg) (by omega)
    refine ⟨w', f', ?_, ?_, g3⟩
    · rw [GW_pass_41, if_neg (I_le_f (by omega) (by omega) (by omega)), e1, bind_s, nmL_e, nmL_e, I_succ, I_add, show sumS w - S0 + ((cnt (seen w (hM w)).testBit (hR w) : Nat) : Int) = sumS w1 - S0 by omega]
      exact g1
    · rw [Mod_pass_54, if_neg (I_le_f (by omega) (by omega) (by omega)), gd_t (by decide), e2, I_succ]
      exact g2
end PASS2
