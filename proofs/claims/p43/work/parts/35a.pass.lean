section PASSX
variable {v w : HouseV} {g : GWV}
/-- a room that isn't seen -/
theorem sgm_uns (w : HouseV) (f1 f2 : Nat → Int32) : SGm (House_set_longestRuns (House_set_runs w f1) f2) w := ⟨((Ho_rooms_longestRuns _ _).trans (Ho_rooms_runs _ _)), ((Ho_doors_longestRuns _ _).trans (Ho_doors_runs _ _)), ((Ho_guards_longestRuns _ _).trans (Ho_guards_runs _ _)), ((Ho_openDoors_longestRuns _ _).trans (Ho_openDoors_runs _ _)), ((Ho_walksStamp_longestRuns _ _).trans (Ho_walksStamp_runs _ _)), ((Ho_phasesStamp_longestRuns _ _).trans (Ho_phasesStamp_runs _ _)), ((Ho_doorFirst_longestRuns _ _).trans (Ho_doorFirst_runs _ _)), ((Ho_doorSecond_longestRuns _ _).trans (Ho_doorSecond_runs _ _)), ((Ho_joined_longestRuns _ _).trans (Ho_joined_runs _ _)), ((Ho_limits_longestRuns _ _).trans (Ho_limits_runs _ _)), ((Ho_periods_longestRuns _ _).trans (Ho_periods_runs _ _)), ((Ho_phases_longestRuns _ _).trans (Ho_phases_runs _ _)), ((Ho_walks_longestRuns _ _).trans (Ho_walks_runs _ _)), ((Ho_walked_longestRuns _ _).trans (Ho_walked_runs _ _))⟩
/-- a room that is seen -/
theorem sgm_see (w : HouseV) (f1 f2 f3 : Nat → Int32) : SGm (House_set_runs (House_set_lastSeen (House_set_sightings w f1) f2) f3) w := ⟨(((Ho_rooms_runs _ _).trans (Ho_rooms_lastSeen _ _)).trans (Ho_rooms_sightings _ _)), (((Ho_doors_runs _ _).trans (Ho_doors_lastSeen _ _)).trans (Ho_doors_sightings _ _)), (((Ho_guards_runs _ _).trans (Ho_guards_lastSeen _ _)).trans (Ho_guards_sightings _ _)), (((Ho_openDoors_runs _ _).trans (Ho_openDoors_lastSeen _ _)).trans (Ho_openDoors_sightings _ _)), (((Ho_walksStamp_runs _ _).trans (Ho_walksStamp_lastSeen _ _)).trans (Ho_walksStamp_sightings _ _)), (((Ho_phasesStamp_runs _ _).trans (Ho_phasesStamp_lastSeen _ _)).trans (Ho_phasesStamp_sightings _ _)), (((Ho_doorFirst_runs _ _).trans (Ho_doorFirst_lastSeen _ _)).trans (Ho_doorFirst_sightings _ _)), (((Ho_doorSecond_runs _ _).trans (Ho_doorSecond_lastSeen _ _)).trans (Ho_doorSecond_sightings _ _)), (((Ho_joined_runs _ _).trans (Ho_joined_lastSeen _ _)).trans (Ho_joined_sightings _ _)), (((Ho_limits_runs _ _).trans (Ho_limits_lastSeen _ _)).trans (Ho_limits_sightings _ _)), (((Ho_periods_runs _ _).trans (Ho_periods_lastSeen _ _)).trans (Ho_periods_sightings _ _)), (((Ho_phases_runs _ _).trans (Ho_phases_lastSeen _ _)).trans (Ho_phases_sightings _ _)), (((Ho_walks_runs _ _).trans (Ho_walks_lastSeen _ _)).trans (Ho_walks_sightings _ _)), (((Ho_walked_runs _ _).trans (Ho_walked_lastSeen _ _)).trans (Ho_walked_sightings _ _))⟩
theorem fld_uns (w : HouseV) (f1 f2 : Nat → Int32) : House_minute (House_set_longestRuns (House_set_runs w f1) f2) = House_minute w ∧ House_sightings (House_set_longestRuns (House_set_runs w f1) f2) = House_sightings w ∧ House_lastSeen (House_set_longestRuns (House_set_runs w f1) f2) = House_lastSeen w ∧ House_runs (House_set_longestRuns (House_set_runs w f1) f2) = f1 ∧ House_longestRuns (House_set_longestRuns (House_set_runs w f1) f2) = f2 := ⟨((Ho_minute_longestRuns _ _).trans (Ho_minute_runs _ _)), ((Ho_sightings_longestRuns _ _).trans (Ho_sightings_runs _ _)), ((Ho_lastSeen_longestRuns _ _).trans (Ho_lastSeen_runs _ _)), ((Ho_runs_longestRuns _ _).trans (Ho_runs_runs _ _)), (Ho_longestRuns_longestRuns _ _)⟩
theorem fld_see (w : HouseV) (f1 f2 f3 : Nat → Int32) : House_minute (House_set_runs (House_set_lastSeen (House_set_sightings w f1) f2) f3) = House_minute w ∧ House_sightings (House_set_runs (House_set_lastSeen (House_set_sightings w f1) f2) f3) = f1 ∧ House_lastSeen (House_set_runs (House_set_lastSeen (House_set_sightings w f1) f2) f3) = f2 ∧ House_runs (House_set_runs (House_set_lastSeen (House_set_sightings w f1) f2) f3) = f3 ∧ House_longestRuns (House_set_runs (House_set_lastSeen (House_set_sightings w f1) f2) f3) = House_longestRuns w := ⟨(((Ho_minute_runs _ _).trans (Ho_minute_lastSeen _ _)).trans (Ho_minute_sightings _ _)), ((Ho_sightings_runs _ _).trans ((Ho_sightings_lastSeen _ _).trans (Ho_sightings_sightings _ _))), ((Ho_lastSeen_runs _ _).trans (Ho_lastSeen_lastSeen _ _)), (Ho_runs_runs _ _), (((Ho_longestRuns_runs _ _).trans (Ho_longestRuns_lastSeen _ _)).trans (Ho_longestRuns_sightings _ _))⟩
/-- what has passed in a room, as numbers -/
def sN (v : HouseV) (r : Nat) : Nat := (House_sightings v r).toNatClampNeg
def uN (v : HouseV) (r : Nat) : Nat := (House_runs v r).toNatClampNeg
def gN (v : HouseV) (r : Nat) : Nat := (House_longestRuns v r).toNatClampNeg
theorem wfs_n (hv : HOK v) {r : Nat} (hr : r < 12) : House_sightings v r = I (sN v r : Int) ∧ sN v r ≤ hM v ∧ House_runs v r = I (uN v r : Int) ∧ uN v r ≤ hM v ∧ House_longestRuns v r = I (gN v r : Int) ∧ gN v r ≤ hM v ∧ ∃ d : Int, House_lastSeen v r = I d ∧ -1 ≤ d ∧ d < hM v := by
  have hM : hM v ≤ 99999 := hv.1.2.2.2.2.2.2.2.2.1
  obtain ⟨a, b, c, d, h1, h2, h3, h4, h5, h6, h7, h8, h9⟩ := hv.2.2.2.2.2 r hr
  unfold sN uN gN
  rw [h1, h3, h5, I_clamp a (by omega), I_clamp b (by omega), I_clamp c (by omega)]
  exact ⟨rfl, h2, rfl, h4, rfl, h6, d, h7, h8, h9⟩
/-- one minute in a room -/
def STEP (v w : HouseV) (M r : Nat) : Prop := House_sightings w r = I ((sN v r + (bif Sg v r M then 1 else 0) : Nat) : Int) ∧ House_lastSeen w r = (bif Sg v r M then I (M : Int) else House_lastSeen v r) ∧ House_runs w r = I ((bif Sg v r M then 0 else uN v r + 1 : Nat) : Int) ∧ House_longestRuns w r = I ((bif Sg v r M then gN v r else max (gN v r) (uN v r + 1) : Nat) : Int)
def SAME4 (v w : HouseV) (r : Nat) : Prop := House_sightings w r = House_sightings v r ∧ House_lastSeen w r = House_lastSeen v r ∧ House_runs w r = House_runs v r ∧ House_longestRuns w r = House_longestRuns v r
theorem passRooms_q (hv : HOK v) : ∀ (q k n : Nat) (w : HouseV), hR v = k + q → q < n → SGm w v → House_minute w = House_minute v → (∀ r, r < k → STEP v w (hM v) r) → (∀ r, k ≤ r → SAME4 v w r) → ∃ w', House_passMinute_11 (I (seen v (hM v) : Int)) n (I (k : Int)) w = House_passMinute_100 (I (seen v (hM v) : Int)) w' ∧ SGm w' v ∧ House_minute w' = House_minute v ∧ (∀ r, r < hR v → STEP v w' (hM v) r) ∧ ∀ r, hR v ≤ r → SAME4 v w' r := by
  have hR12 : hR v ≤ 12 := hv.1.2.2.1
  have hp12 := pow31 hR12
  have hMb : hM v ≤ 99999 := hv.1.2.2.2.2.2.2.2.2.1
  have eM : House_minute v = I (hM v : Int) := hv.1.2.2.2.2.2.2.2.1
  have hsl := seen_lt hv.2.2.2.2.1 (hM v)
  intro q
  induction q with
  | zero =>
    intro k n w hk hm sg mi h1 h2
    obtain ⟨n, rfl⟩ : ∃ q, n = q + 1 := ⟨n - 1, by omega⟩
    refine ⟨w, ?_, sg, mi, fun r hr => h1 r (by omega), fun r hr => h2 r (by omega)⟩
    rw [House_passMinute_11, sg.1, hv.1.1, if_pos (I_le_t (by omega) (by omega) (by omega))]
  | succ q ih =>
    intro k n w hk hm sg mi h1 h2
    obtain ⟨n, rfl⟩ : ∃ q, n = q + 1 := ⟨n - 1, by omega⟩
    obtain ⟨u1, u2, u3, u4⟩ := h2 k (Nat.le_refl k)
    obtain ⟨z1, z2, z3, z4, z5, z6, -⟩ := wfs_n hv (r := k) (by omega)
    rw [House_passMinute_11, sg.1, hv.1.1, if_neg (I_le_f (by omega) (by omega) (by omega)), I12, if_neg (I_le_f (by omega) (by omega) (by omega)), gwhas_s (by omega) (by omega), bind_s, show (seen v (hM v)).testBit k = Sg v k (hM v) from rfl]
    cases hb : Sg v k (hM v)
    · rw [bif_f, gd_I (by omega) (by omega) (by omega), nmL_e, nmL_e, nmL_e, I_clamp k (by omega), I_succ]
      obtain ⟨f1, f2, f3, f4, f5⟩ := fld_uns w (upd (House_runs w) k (House_runs w k + 1)) (upd (House_longestRuns (House_set_runs w (upd (House_runs w) k (House_runs w k + 1)))) k (imax (House_longestRuns (House_set_runs w (upd (House_runs w) k (House_runs w k + 1))) k) (House_runs (House_set_runs w (upd (House_runs w) k (House_runs w k + 1))) k)))
      refine ih (k + 1) n _ (by omega) (by omega) (sgm_trans (sgm_uns _ _ _) sg) (f1.trans mi) (fun r hr => ?_) fun r hr => ?_
      · unfold STEP
        rw [f2, f3, f4, f5]
        by_cases e : r = k
        · subst e
          rw [upd_i, upd_i, hb, bif_f, bif_f, bif_f, bif_f, Ho_longestRuns_runs, Ho_runs_runs, upd_i, u1, u2, u3, u4, z1, z3, z5, I_succ, imax_I (by omega) (by omega) (by omega) (by omega)]
          exact ⟨by rw [Nat.add_zero], rfl, rfl, by congr 1; omega⟩
        · rw [upd_n e, upd_n e, Ho_longestRuns_runs]
          exact h1 r (by omega)
      · unfold SAME4
        rw [f2, f3, f4, f5, upd_n (by omega), upd_n (by omega), Ho_longestRuns_runs]
        exact h2 r (by omega)
    · rw [bif_t, gd_I (by omega) (by omega) (by omega), nmL_e, nmL_e, nmL_e, nmL_e, I_clamp k (by omega), I_succ]
      obtain ⟨f1, f2, f3, f4, f5⟩ := fld_see w (upd (House_sightings w) k (House_sightings w k + 1)) (upd (House_lastSeen (House_set_sightings w (upd (House_sightings w) k (House_sightings w k + 1)))) k (House_minute (House_set_sightings w (upd (House_sightings w) k (House_sightings w k + 1))))) (upd (House_runs (House_set_lastSeen (House_set_sightings w (upd (House_sightings w) k (House_sightings w k + 1))) (upd (House_lastSeen (House_set_sightings w (upd (House_sightings w) k (House_sightings w k + 1)))) k (House_minute (House_set_sightings w (upd (House_sightings w) k (House_sightings w k + 1))))))) k 0)
      refine ih (k + 1) n _ (by omega) (by omega) (sgm_trans (sgm_see _ _ _ _) sg) (f1.trans mi) (fun r hr => ?_) fun r hr => ?_
      · unfold STEP
        rw [f2, f3, f4, f5]
        by_cases e : r = k
        · subst e
          rw [upd_i, upd_i, upd_i, hb, bif_t, bif_t, bif_t, bif_t, Ho_minute_sightings, u1, u4, z1, z5, mi, eM, I_succ]
          exact ⟨rfl, rfl, rfl, rfl⟩
        · rw [upd_n e, upd_n e, upd_n e, Ho_lastSeen_sightings, Ho_runs_lastSeen, Ho_runs_sightings]
          exact h1 r (by omega)
      · unfold SAME4
        rw [f2, f3, f4, f5, upd_n (by omega), upd_n (by omega), upd_n (by omega), Ho_lastSeen_sightings, Ho_runs_lastSeen, Ho_runs_sightings]
        exact h2 r (by omega)
theorem sgm_n {w v : HouseV} (h : SGm w v) : hR w = hR v ∧ hD w = hD v ∧ hG w = hG v ∧ hO w = hO v ∧ hA w = hA v ∧ hB w = hB v ∧ hL w = hL v ∧ hP w = hP v ∧ hF w = hF v ∧ hW w = hW v := by
  obtain ⟨a1, a2, a3, a4, a5, a6, a7, a8, a9, a10, a11, a12, a13, a14⟩ := h
  unfold hR hD hG hO hA hB hL hP hF hW
  rw [a1, a2, a3, a4, a7, a8, a10, a11, a12, a13]
  exact ⟨rfl, rfl, rfl, rfl, rfl, rfl, rfl, rfl, rfl, rfl⟩
/-- one minute -/
theorem passMinute_q (hv : HOK v) (h9 : hM v + 1 ≤ 99999) : ∃ v', House_passMinute v = some (I ((cnt (fun r => Sg v r (hM v)) (hR v) : Nat) : Int), v') ∧ SGm v' v ∧ hM v' = hM v + 1 ∧ House_minute v' = I ((hM v + 1 : Nat) : Int) ∧ (∀ r, r < hR v → STEP v v' (hM v) r) ∧ (∀ r, hR v ≤ r → SAME4 v v' r) ∧ HOK v' := by
  have hR12 : hR v ≤ 12 := hv.1.2.2.1
  have eM : House_minute v = I (hM v : Int) := hv.1.2.2.2.2.2.2.2.1
  obtain ⟨w, w1, w2, w3, w4, w5⟩ := passRooms_q hv (hR v) 0 FU v (by omega) (by unfold FU; omega) (SGm.refl v) rfl (fun r hr => absurd hr (by omega)) fun r _ => ⟨rfl, rfl, rfl, rfl⟩
  have e1 : House_minute (House_set_minute w (House_minute w + 1)) = I ((hM v + 1 : Nat) : Int) := by rw [Ho_minute_minute, w3, eM, I_succ]
  have e2 : hM (House_set_minute w (House_minute w + 1)) = hM v + 1 := by
    unfold hM
    rw [e1, I_clamp _ (by show hM v + 1 < 2147483648; omega)]
    rfl
  have sg := sgm_min (House_minute w + 1) w2
  have k4 : ∀ r, House_sightings (House_set_minute w (House_minute w + 1)) r = House_sightings w r ∧ House_lastSeen (House_set_minute w (House_minute w + 1)) r = House_lastSeen w r ∧ House_runs (House_set_minute w (House_minute w + 1)) r = House_runs w r ∧ House_longestRuns (House_set_minute w (House_minute w + 1)) r = House_longestRuns w r := fun r => by
    rw [Ho_sightings_minute, Ho_lastSeen_minute, Ho_runs_minute, Ho_longestRuns_minute]
    exact ⟨rfl, rfl, rfl, rfl⟩
  have hST : ∀ r, r < hR v → STEP v (House_set_minute w (House_minute w + 1)) (hM v) r := fun r hr => by
    obtain ⟨x1, x2, x3, x4⟩ := k4 r
    unfold STEP
    rw [x1, x2, x3, x4]
    exact w4 r hr
  have hSA : ∀ r, hR v ≤ r → SAME4 v (House_set_minute w (House_minute w + 1)) r := fun r hr => by
    obtain ⟨x1, x2, x3, x4⟩ := k4 r
    unfold SAME4
    rw [x1, x2, x3, x4]
    exact w5 r hr
  have hcl := seen_lt hv.2.2.2.2.1 (hM v)
  refine ⟨_, ?_, sg, e2, e1, hST, hSA, ?_⟩
  · unfold House_passMinute
    rw [eM, roomsSeenAt_s hv.1 hv.2.2.2.2.1 (by omega), bind_s]
    refine Eq.trans w1 ?_
    unfold House_passMinute_100
    rw [nmL_e, bitCount_n hcl (by omega), bind_s]
    rfl
  · revert e1 e2 sg hST hSA
    generalize House_set_minute w (House_minute w + 1) = w'
    intro e1 e2 sg hST hSA
    obtain ⟨hn, hd, hj, hl, hw, hs⟩ := id hv
    obtain ⟨n1, n2, n3, n4, n5, n6, n7, n8, n9, n10⟩ := sgm_n sg
    obtain ⟨a1, a2, a3, a4, a5, a6, a7, a8, a9, a10, a11, a12, a13, a14⟩ := id sg
    refine ⟨?_, wfd_c a2 a1 a7 a8 hd, wfj_c a2 a4 a7 a8 a9 hj, wfl_c a10 hl, wfG_c a1 a3 a11 a12 a13 a14 hw, fun r hr => ?_⟩
    · obtain ⟨b1, b2, b3, b4, b5, b6, b7, b8, b9, b10, b11⟩ := hn
      unfold WFn
      rw [n1, n2, n3, n4, e2, e1, a1, a2, a3, a4]
      exact ⟨b1, b2, b3, b4, b5, b6, b7, rfl, h9, b10, b11⟩
    · obtain ⟨z1, z2, z3, z4, z5, z6, d, z7, z8, z9⟩ := wfs_n hv hr
      rw [e2]
      by_cases c : r < hR v
      · obtain ⟨y1, y2, y3, y4⟩ := hST r c
        cases hb : Sg v r (hM v)
        · rw [hb] at y1 y2 y3 y4
          exact ⟨_, _, _, d, y1, by show sN v r + 0 ≤ hM v + 1; omega, y3, by show uN v r + 1 ≤ hM v + 1; omega, y4, by show max (gN v r) (uN v r + 1) ≤ hM v + 1; omega, y2.trans z7, z8, by omega⟩
        · rw [hb] at y1 y2 y3 y4
          exact ⟨_, _, _, (hM v : Int), y1, by show sN v r + 1 ≤ hM v + 1; omega, y3, by show 0 ≤ hM v + 1; omega, y4, by show gN v r ≤ hM v + 1; omega, y2, by omega, by omega⟩
      · obtain ⟨y1, y2, y3, y4⟩ := hSA r (by omega)
        exact ⟨_, _, _, d, y1.trans z1, by omega, y3.trans z3, by omega, y4.trans z5, by omega, y2.trans z7, z8, by omega⟩
/-! so many minutes -/
/-- the run and the longest run behind so many minutes -/
def rsN (S : Nat → Bool) (b c : Nat) : Nat → Nat × Nat
  | 0 => (b, c)
  | k + 1 => bif S k then (0, (rsN S b c k).2) else ((rsN S b c k).1 + 1, max (rsN S b c k).2 ((rsN S b c k).1 + 1))
/-- n minutes have passed -/
def PAST (v w : HouseV) (n : Nat) : Prop := SGm w v ∧ hM w = hM v + n ∧ HOK w ∧ (∀ r, r < hR v → sN w r = sN v r + cnt (fun j => Sg v r (hM v + j)) n ∧ uN w r = (rsN (fun j => Sg v r (hM v + j)) (uN v r) (gN v r) n).1 ∧ gN w r = (rsN (fun j => Sg v r (hM v + j)) (uN v r) (gN v r) n).2) ∧ ∀ r, hR v ≤ r → SAME4 v w r
theorem PAST.zero (hv : HOK v) : PAST v v 0 := ⟨SGm.refl v, rfl, hv, fun r _ => ⟨rfl, rfl, rfl⟩, fun r _ => ⟨rfl, rfl, rfl, rfl⟩⟩
theorem pass_loop_q (hv : HOK v) {n : Nat} (hn : n ≤ 1000) (h9 : hM v + n ≤ 99999) {y : HistV} {e : Nat → HouseV} : ∀ (q k m : Nat) (w : HouseV), n = k + q → q < m → PAST v w k → ∃ w', GW_pass_41 (I (n : Int)) g m (I (psum v (hM v) k : Int)) (I (k : Int)) w y e = some (I (psum v (hM v) n : Int), w', y, e) ∧ PAST v w' n := by
  intro q
  induction q with
  | zero =>
    intro k m w hk hm hp
    obtain ⟨m, rfl⟩ : ∃ q, m = q + 1 := ⟨m - 1, by omega⟩
    refine ⟨w, ?_, by rw [show n = k by omega]; exact hp⟩
    rw [GW_pass_41, if_pos (I_le_t (by omega) (by omega) (by omega)), show k = n by omega]
  | succ q ih =>
    intro k m w hk hm hp
    obtain ⟨m, rfl⟩ : ∃ q, m = q + 1 := ⟨m - 1, by omega⟩
    obtain ⟨p1, p2, p3, p4, p5⟩ := hp
    obtain ⟨w', e1, e2, e3, e4, e5, e6, e7⟩ := passMinute_q p3 (by omega)
    obtain ⟨n1, -⟩ := sgm_n p1
    have hSg : ∀ r t, Sg w r t = Sg v r t := fun r t => by rw [sw_Sg (sgm_sw p1)]
    have hlt : ∀ r, r < hR v → r < 12 := fun r hr => by have := hv.1.2.2.1; omega
    have hp' : PAST v w' (k + 1) := by
      refine ⟨sgm_trans e2 p1, by rw [e3, p2]; omega, e7, fun r hr => ?_, fun r hr => ?_⟩
      · obtain ⟨q1, q2, q3⟩ := p4 r hr
        obtain ⟨y1, y2, y3, y4⟩ := e5 r (by rw [n1]; exact hr)
        obtain ⟨z1, z2, z3, z4, z5, z6, -⟩ := wfs_n p3 (hlt r hr)
        rw [hSg, p2] at y1 y3 y4
        have hb := wfs_n e7 (hlt r hr)
        rw [cnt, rsN]
        unfold sN uN gN at hb ⊢
        rw [y1, y3, y4]
        have hMw : hM w ≤ 99999 := p3.1.2.2.2.2.2.2.2.2.1
        cases hS : Sg v r (hM v + k)
        · rw [bif_f, bif_f, bif_f, bif_f, I_clamp _ (by omega), I_clamp _ (by omega), I_clamp _ (by omega), q1, q2, q3]
          exact ⟨rfl, rfl, rfl⟩
        · rw [bif_t, bif_t, bif_t, bif_t, I_clamp _ (by omega), I_clamp _ (by omega), I_clamp _ (by omega), q1, q3]
          exact ⟨Nat.add_assoc (sN v r) _ 1, rfl, rfl⟩
      · obtain ⟨q1, q2, q3, q4⟩ := p5 r hr
        obtain ⟨y1, y2, y3, y4⟩ := e6 r (by rw [n1]; exact hr)
        exact ⟨y1.trans q1, y2.trans q2, y3.trans q3, y4.trans q4⟩
    obtain ⟨w2, f1, f2⟩ := ih (k + 1) m w' (by omega) (by omega) hp'
    refine ⟨w2, ?_, f2⟩
    have hc : cnt (fun r => Sg w r (hM w)) (hR w) = cnt (fun r => Sg v r (hM v + k)) (hR v) := by
      rw [n1]
      exact cnt_congr fun r _ => by rw [hSg, p2]
    rw [psum] at f1
    rw [GW_pass_41, if_neg (I_le_f (by omega) (by omega) (by omega)), e1, bind_s, nmL_e, nmL_e, I_add, I_succ, hc]
    exact f1
theorem pass_q (hv : HOK v) {n : Nat} (h1 : 1 ≤ n) (hn : n ≤ 500) (h9 : hM v + n ≤ 99999) {y : HistV} {e : Nat → HouseV} {c : Nat} {U : Nat → HouseV} (hh : HQ y e c U) : ∃ w y' e', GW_pass (I (n : Int)) g v y e = some (I (psum v (hM v) n : Int), w, y', e') ∧ PAST v w n ∧ HQ y' e' (min (c + 1) 10) (psh v U) ∧ Hist_saved y' = Hist_saved y := by
  have eM : House_minute v = I (hM v : Int) := hv.1.2.2.2.2.2.2.2.1
  obtain ⟨y', e', r1, r2, r3⟩ := record_q hh v
  obtain ⟨w, w1, w2⟩ := pass_loop_q (g := g) hv (n := n) (by omega) h9 (y := y') (e := e') n 0 FU v (by omega) (by unfold FU; omega) (PAST.zero hv)
  refine ⟨w, y', e', ?_, w2, r2, r3⟩
  unfold GW_pass
  rw [show (1 : Int32) = I 1 from rfl, show (500 : Int32) = I 500 from rfl, needRange_o (by omega) (by omega) (by omega) (by omega), bind_s, eM, I_add, if_pos (show I ((hM v : Int) + (n : Int)) ≤ (99999 : Int32) from I_le_t (b := 99999) (by omega) (by omega) (by omega)), r1, bind_s]
  exact w1
end PASSX
