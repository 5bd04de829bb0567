section PASS
/-- the two houses differ in what has passed in the rooms alone -/
def SGm (w v : HouseV) : Prop := House_rooms w = House_rooms v ∧ House_doors w = House_doors v ∧ House_guards w = House_guards v ∧ House_openDoors w = House_openDoors v ∧ House_walksStamp w = House_walksStamp v ∧ House_phasesStamp w = House_phasesStamp v ∧ House_doorFirst w = House_doorFirst v ∧ House_doorSecond w = House_doorSecond v ∧ House_joined w = House_joined v ∧ House_limits w = House_limits v ∧ House_periods w = House_periods v ∧ House_phases w = House_phases v ∧ House_walks w = House_walks v ∧ House_walked w = House_walked v
theorem SGm.refl (v : HouseV) : SGm v v := ⟨rfl, rfl, rfl, rfl, rfl, rfl, rfl, rfl, rfl, rfl, rfl, rfl, rfl, rfl⟩
theorem sgm_trans {u w v : HouseV} (h : SGm u w) (h' : SGm w v) : SGm u v := by
  obtain ⟨a1, a2, a3, a4, a5, a6, a7, a8, a9, a10, a11, a12, a13, a14⟩ := h
  obtain ⟨b1, b2, b3, b4, b5, b6, b7, b8, b9, b10, b11, b12, b13, b14⟩ := h'
  exact ⟨a1.trans b1, a2.trans b2, a3.trans b3, a4.trans b4, a5.trans b5, a6.trans b6, a7.trans b7, a8.trans b8, a9.trans b9, a10.trans b10, a11.trans b11, a12.trans b12, a13.trans b13, a14.trans b14⟩
theorem sgm_sw {w v : HouseV} (h : SGm w v) : SW w v := sw_c h.1 h.2.2.1 h.2.2.2.2.2.2.2.2.2.2.1 h.2.2.2.2.2.2.2.2.2.2.2.1 h.2.2.2.2.2.2.2.2.2.2.2.2.1
def hS (v : HouseV) (r : Nat) : Int := ((House_sightings v r).toNatClampNeg : Int)
def sumS (v : HouseV) : Int := sumTo (hS v) (hR v)
/-- the bounds of what has passed, with b in the place of the minute -/
def WFb (v : HouseV) (B : Nat) (r : Nat) : Prop := ∃ a b c : Nat, ∃ d : Int, House_sightings v r = I (a : Int) ∧ a ≤ B ∧ House_runs v r = I (b : Int) ∧ b ≤ B ∧ House_longestRuns v r = I (c : Int) ∧ c ≤ B ∧ House_lastSeen v r = I d ∧ -1 ≤ d ∧ d < B
theorem wfb_mono {v : HouseV} {B C r : Nat} (h : WFb v B r) (hc : B ≤ C) : WFb v C r := by
  obtain ⟨a, b, c, d, h1, h2, h3, h4, h5, h6, h7, h8, h9⟩ := h
  exact ⟨a, b, c, d, h1, by omega, h3, by omega, h5, by omega, h7, h8, by omega⟩
/-- one room's four numbers -/
def RM (w v : HouseV) (r : Nat) (s l u g : Int32) : Prop := ∀ q, House_sightings w q = (if q = r then s else House_sightings v q) ∧ House_lastSeen w q = (if q = r then l else House_lastSeen v q) ∧ House_runs w q = (if q = r then u else House_runs v q) ∧ House_longestRuns w q = (if q = r then g else House_longestRuns v q)
theorem rel_room {m : Nat → Int32} {w v : HouseV} (hn : WFn v) (hr : RelM m v) (hs : SGm w v) (hM : House_minute w = House_minute v) {r : Nat} (hr12 : r < 12) {s l u g : Int32} (h : RM w v r s l u g) : RelM (upd (upd (upd (upd m (7 + 5 * r) u) (8 + 5 * r) g) (5 + 5 * r) s) (6 + 5 * r) l) w := by
  have hD20 : hD v ≤ 20 := hn.2.2.2.2.1
  have hG4 : hG v ≤ 4 := hn.2.2.2.2.2.2.1
  obtain ⟨f1, f2, f3, f5, f17, f18, f6, f7, f19, f8, f9, f10, f11, f12⟩ := hs
  have gO : hO w = hO v := by unfold hO; rw [f5]
  have gD : hD w = hD v := by unfold hD; rw [f2]
  have gG : hG w = hG v := by unfold hG; rw [f3]
  have gP : hP w = hP v := by unfold hP; rw [f9]
  obtain ⟨a1, a2, a3, a4, a5, a6, a7⟩ := hr
  have key : ∀ i, (∀ j, j < 4 → i ≠ 5 + 5 * r + j) → upd (upd (upd (upd m (7 + 5 * r) u) (8 + 5 * r) g) (5 + 5 * r) s) (6 + 5 * r) l i = m i := fun i hi => by
    have i0 := hi 0 (by omega)
    have i1 := hi 1 (by omega)
    have i2 := hi 2 (by omega)
    have i3 := hi 3 (by omega)
    rw [upd_n (by omega), upd_n (by omega), upd_n (by omega), upd_n (by omega)]
  unfold RelM
  rw [gO, gD, gG, gP, f1, f2, f3, hM, f6, f7, f8, f9, f10, f11, key 0 (by omega), key 1 (by omega), key 2 (by omega), key 3 (by omega)]
  refine ⟨a1, a2, a3, a4, fun q hq => ?_, fun q hq => ?_, fun q hq => ?_⟩
  · obtain ⟨h1, h2, h3, h4⟩ := h q
    obtain ⟨b1, b2, b3, b4, b5⟩ := a5 q hq
    rw [h1, h2, h3, h4, key (4 + 5 * q) (by omega)]
    by_cases c : q = r
    · subst c
      rw [if_pos rfl, if_pos rfl, if_pos rfl, if_pos rfl]
      refine ⟨b1, ?_, upd_i, ?_, ?_⟩
      · rw [upd_n (by omega), upd_i]
      · rw [upd_n (by omega), upd_n (by omega), upd_n (by omega), upd_i]
      · rw [upd_n (by omega), upd_n (by omega), upd_i]
    · rw [if_neg c, if_neg c, if_neg c, if_neg c, key (5 + 5 * q) (by omega), key (6 + 5 * q) (by omega), key (7 + 5 * q) (by omega), key (8 + 5 * q) (by omega)]
      exact ⟨b1, b2, b3, b4, b5⟩
  · rw [key (64 + 3 * q) (by omega), key (65 + 3 * q) (by omega), key (66 + 3 * q) (by omega)]
    exact a6 q hq
  · obtain ⟨b1, b2, b3⟩ := a7 q hq
    rw [key (124 + 12 * q) (by omega), key (125 + 12 * q) (by omega)]
    exact ⟨b1, b2, fun s hs => by rw [key (126 + 12 * q + s) (by omega)]; exact b3 s hs⟩
theorem snow_self (M : ModelV) (f g : Nat → Int32) : Model_set_now (Model_set_now M f) g = Model_set_now M g := rfl
/-- one room of the model -/
theorem passRoom_m {M : ModelV} {f : Nat → Int32} {r : Nat} (hr : r < 12) (b : Bool) : Mod_passRoom (I (r : Int)) b (Model_set_now M f) = some (Model_set_now M (upd (upd (upd (upd f (7 + 5 * r) (bif b then 0 else f (7 + 5 * r) + 1)) (8 + 5 * r) (imax (f (8 + 5 * r)) (bif b then 0 else f (7 + 5 * r) + 1))) (5 + 5 * r) (f (5 + 5 * r) + (bif b then 1 else 0))) (6 + 5 * r) (bif b then f 3 else f (6 + 5 * r)))) := by
  have e7 : ∀ g, Mod_ofRoom (I (r : Int)) 3 (Model_set_now M g) = some (g (7 + 5 * r)) := fun g => by
    rw [show (3 : Int32) = I ((3 : Nat) : Int) from rfl, ofRoom_m (by omega) (by omega), Mo_now_now, show 4 + 5 * r + 3 = 7 + 5 * r by omega]
  have e8 : ∀ g, Mod_ofRoom (I (r : Int)) 4 (Model_set_now M g) = some (g (8 + 5 * r)) := fun g => by
    rw [show (4 : Int32) = I ((4 : Nat) : Int) from rfl, ofRoom_m (by omega) (by omega), Mo_now_now, show 4 + 5 * r + 4 = 8 + 5 * r by omega]
  have e6 : ∀ g, Mod_ofRoom (I (r : Int)) 2 (Model_set_now M g) = some (g (6 + 5 * r)) := fun g => by
    rw [show (2 : Int32) = I ((2 : Nat) : Int) from rfl, ofRoom_m (by omega) (by omega), Mo_now_now, show 4 + 5 * r + 2 = 6 + 5 * r by omega]
  have k68 : ∀ (s0 s1 : Int32) (g : Nat → Int32), g 3 = f 3 → g (6 + 5 * r) = f (6 + 5 * r) → Mod_passRoom_68 (I (r : Int)) b s0 s1 (I (4 + 5 * (r : Int) + 1)) (Model_set_now M g) = some (Model_set_now M (upd (upd g (5 + 5 * r) (s1 + s0)) (6 + 5 * r) (bif b then f 3 else f (6 + 5 * r)))) := by
    intro s0 s1 g h3 h6
    have u3 : upd g (5 + 5 * r) (s1 + s0) 3 = f 3 := by rw [upd_n (by omega), h3]
    have u6 : upd g (5 + 5 * r) (s1 + s0) (6 + 5 * r) = f (6 + 5 * r) := by rw [upd_n (by omega), h6]
    unfold Mod_passRoom_68
    rw [gd_I (by omega) (by omega) (by omega), nmL_e, I_nat (by omega) (by omega), show (4 + 5 * (r : Int) + 1).toNat = 5 + 5 * r by omega, Mo_now_now, snow_self, I2, roomAt_m, bind_s]
    cases b
    · rw [bif_f, ← I2, e6, bind_s, gd_I (by omega) (by omega) (by omega), nmL_e, I_nat (by omega) (by omega), show (4 + 5 * (r : Int) + 2).toNat = 6 + 5 * r by omega, Mo_now_now, snow_self, u6]; rfl
    · rw [bif_t, I3, gd_I (by omega) (by omega) (by omega), gd_I (by omega) (by omega) (by omega), nmL_e, I_nat (by omega) (by omega), show (4 + 5 * (r : Int) + 2).toNat = 6 + 5 * r by omega, Mo_now_now, snow_self, show (3 : Int) = ((3 : Nat) : Int) from rfl, I_clamp 3 (by omega), u3]; rfl
  have k16 : ∀ u : Int32, Mod_passRoom_16 (I (r : Int)) b u (Model_set_now M f) = some (Model_set_now M (upd (upd (upd (upd f (7 + 5 * r) u) (8 + 5 * r) (imax (f (8 + 5 * r)) u)) (5 + 5 * r) (f (5 + 5 * r) + (bif b then 1 else 0))) (6 + 5 * r) (bif b then f 3 else f (6 + 5 * r)))) := by
    intro u
    have v8 : upd f (7 + 5 * r) u (8 + 5 * r) = f (8 + 5 * r) := upd_n (by omega)
    have v5 : upd (upd f (7 + 5 * r) u) (8 + 5 * r) (imax (f (8 + 5 * r)) u) (5 + 5 * r) = f (5 + 5 * r) := by rw [upd_n (by omega), upd_n (by omega)]
    unfold Mod_passRoom_16
    rw [I3, roomAt_m, bind_s, gd_I (by omega) (by omega) (by omega), nmL_e, I_nat (by omega) (by omega), show (4 + 5 * (r : Int) + 3).toNat = 7 + 5 * r by omega, Mo_now_now, snow_self, I4, roomAt_m, bind_s, ← I4, e8, bind_s, gd_I (by omega) (by omega) (by omega), nmL_e, I_nat (by omega) (by omega), show (4 + 5 * (r : Int) + 4).toNat = 8 + 5 * r by omega, Mo_now_now, snow_self, v8, I1, roomAt_m, bind_s, gd_I (by omega) (by omega) (by omega), I_nat (by omega) (by omega), show (4 + 5 * (r : Int) + 1).toNat = 5 + 5 * r by omega, Mo_now_now, v5, ← I1]
    cases b
    · rw [bif_f, k68 _ _ _ (by rw [upd_n (by omega), upd_n (by omega)]) (by rw [upd_n (by omega), upd_n (by omega)])]; rfl
    · rw [bif_t, k68 _ _ _ (by rw [upd_n (by omega), upd_n (by omega)]) (by rw [upd_n (by omega), upd_n (by omega)])]; rfl
  unfold Mod_passRoom
  cases b
  · rw [bif_f, e7, bind_s]
    exact k16 _
  · rw [bif_t]
    exact k16 _
/-- all rooms of one minute, class and model side by side -/
theorem pass_rooms {M : ModelV} {v : HouseV} (hv : HOK v) {A : Nat} (hA : A < 2 ^ hR v) {x1 x2 x3 : Int32} {k54 : Int32 → ModelV → Option (Int32 × ModelV)} : ∀ (q k n1 n2 : Nat) (w : HouseV) (f : Nat → Int32), hR v = k + q → q < n1 → q < n2 → SGm w v → House_minute w = House_minute v → RelM f w → (∀ r, k ≤ r → r < 12 → House_sightings w r = House_sightings v r ∧ House_lastSeen w r = House_lastSeen v r ∧ House_runs w r = House_runs v r ∧ House_longestRuns w r = House_longestRuns v r) → (∀ r, r < 12 → WFb w (hM v + 1) r) → (∀ r, r < k → hS w r = hS v r + (bif A.testBit r then 1 else 0)) → ∃ w' f', House_passMinute_11 (I (A : Int)) n1 (I (k : Int)) w = House_passMinute_100 (I (A : Int)) w' ∧ Mod_pass_74 x1 x2 x3 (I (A : Int)) k54 n2 (I (k : Int)) (Model_set_now M f) = k54 (x3 + 1) (Model_set_now M (upd f' 3 (f' 3 + 1))) ∧ SGm w' v ∧ House_minute w' = House_minute v ∧ RelM f' w' ∧ (∀ r, r < 12 → WFb w' (hM v + 1) r) ∧ ∀ r, r < hR v → hS w' r = hS v r + (bif A.testBit r then 1 else 0) := by
  obtain ⟨hn, hd, hj, hl, hw, hs⟩ := hv
  have hR12 : hR v ≤ 12 := hn.2.2.1
  have hp12 := pow31 hR12
  have hMb : hM v ≤ 99999 := hn.2.2.2.2.2.2.2.2.1
  have eM : House_minute v = I (hM v : Int) := hn.2.2.2.2.2.2.2.1
  intro q
  induction q with
  | zero =>
    intro k n1 n2 w f hk h1 h2 sg mi hr un bo su
    obtain ⟨n1, rfl⟩ : ∃ q, n1 = q + 1 := ⟨n1 - 1, by omega⟩
    obtain ⟨n2, rfl⟩ : ∃ q, n2 = q + 1 := ⟨n2 - 1, by omega⟩
    have hnw : WFn w := wfn_c sg.1 sg.2.1 sg.2.2.1 mi sg.2.2.2.1 hn
    have eR : hR w = hR v := by unfold hR; rw [sg.1]
    refine ⟨w, f, ?_, ?_, sg, mi, hr, bo, fun r hrr => su r (by omega)⟩
    · rw [House_passMinute_11, hnw.1, eR, if_pos (I_le_t (by omega) (by omega) (by omega))]
    · rw [Mod_pass_74, rooms_m (mv := Model_set_now M f) (by rw [Mo_now_now]; exact hr) hnw, bind_s, eR, if_pos (I_le_t (by omega) (by omega) (by omega)), I3, gd_I (by omega) (by omega) (by omega), nmL_e, nmL_e, show (3 : Int) = ((3 : Nat) : Int) from rfl, I_clamp 3 (by omega), Mo_now_now, snow_self]
  | succ q ih =>
    intro k n1 n2 w f hk h1 h2 sg mi hr un bo su
    obtain ⟨n1, rfl⟩ : ∃ q, n1 = q + 1 := ⟨n1 - 1, by omega⟩
    obtain ⟨n2, rfl⟩ : ∃ q, n2 = q + 1 := ⟨n2 - 1, by omega⟩
    have hnw : WFn w := wfn_c sg.1 sg.2.1 sg.2.2.1 mi sg.2.2.2.1 hn
    have eR : hR w = hR v := by unfold hR; rw [sg.1]
    obtain ⟨u1, u2, u3, u4⟩ := un k (Nat.le_refl k) (by omega)
    obtain ⟨a, b, c, d, s1, s2, s3, s4, s5, s6, s7, s8, s9⟩ := hs k (by omega)
    obtain ⟨r1, r2, r3, r4, r5⟩ := hr.2.2.2.2.1 k (by omega)
    have rm := hr.2.2.2.1
    rw [u1, s1] at r2
    rw [u3, s3] at r4
    rw [u4, s5] at r5
    rw [u2] at r3
    rw [mi] at rm
    -- the house behind this room
    have step : ∀ (w1 : HouseV) (s l u g : Int32), SGm w1 w → House_minute w1 = House_minute w → RM w1 w k s l u g → (f (5 + 5 * k) + (bif A.testBit k then 1 else 0) = s) → ((bif A.testBit k then f 3 else f (6 + 5 * k)) = l) → ((bif A.testBit k then (0 : Int32) else f (7 + 5 * k) + 1) = u) → (imax (f (8 + 5 * k)) (bif A.testBit k then (0 : Int32) else f (7 + 5 * k) + 1) = g) → WFb w1 (hM v + 1) k → hS w1 k = hS v k + (bif A.testBit k then 1 else 0) → ∃ w' f', House_passMinute_11 (I (A : Int)) n1 (I ((k + 1 : Nat) : Int)) w1 = House_passMinute_100 (I (A : Int)) w' ∧ Mod_pass_74 x1 x2 x3 (I (A : Int)) k54 (n2 + 1) (I (k : Int)) (Model_set_now M f) = k54 (x3 + 1) (Model_set_now M (upd f' 3 (f' 3 + 1))) ∧ SGm w' v ∧ House_minute w' = House_minute v ∧ RelM f' w' ∧ (∀ r, r < 12 → WFb w' (hM v + 1) r) ∧ ∀ r, r < hR v → hS w' r = hS v r + (bif A.testBit r then 1 else 0) := by
      intro w1 s l u g sg1 mi1 rm1 e1 e2 e3 e4 wb hsum
      have hrel := rel_room hnw hr sg1 mi1 (by omega : k < 12) rm1
      obtain ⟨w', f', p1, p2, p3⟩ := ih (k + 1) n1 n2 w1 _ (by omega) (by omega) (by omega) (sgm_trans sg1 sg) (mi1.trans mi) hrel (fun r hr1 hr2 => by
        obtain ⟨z1, z2, z3, z4⟩ := rm1 r
        obtain ⟨y1, y2, y3, y4⟩ := un r (by omega) hr2
        rw [z1, z2, z3, z4, if_neg (by omega), if_neg (by omega), if_neg (by omega), if_neg (by omega)]
        exact ⟨y1, y2, y3, y4⟩) (fun r hr1 => by
        by_cases hrk : r = k
        · rw [hrk]; exact wb
        · obtain ⟨z1, z2, z3, z4⟩ := rm1 r
          have := bo r hr1
          unfold WFb at this ⊢
          rw [z1, z2, z3, z4, if_neg hrk, if_neg hrk, if_neg hrk, if_neg hrk]
          exact this) (fun r hr1 => by
        by_cases hrk : r = k
        · rw [hrk]; exact hsum
        · have := su r (by omega)
          unfold hS at this ⊢
          rw [(rm1 r).1, if_neg hrk]
          exact this)
      refine ⟨w', f', p1, ?_, p3⟩
      rw [Mod_pass_74, rooms_m (mv := Model_set_now M f) (by rw [Mo_now_now]; exact hr) hnw, bind_s, eR, if_neg (I_le_f (by omega) (by omega) (by omega)), modhas_s (by omega) (by omega), bind_s, passRoom_m (by omega), bind_s, nmL_e, I_succ, e1, e2, e4, e3]
      exact p2
    rw [House_passMinute_11, hnw.1, eR, if_neg (I_le_f (by omega) (by omega) (by omega)), I12, if_neg (I_le_f (by omega) (by omega) (by omega)), gwhas_s (by omega) (by omega), bind_s]
    cases hb : A.testBit k
    · rw [bif_f, gd_I (by omega) (by omega) (by omega), nmL_e, nmL_e, nmL_e, I_clamp k (by omega), I_succ, Ho_longestRuns_runs, Ho_runs_runs, upd_i, u3, u4, s3, s5, I_succ, imax_I (by omega) (by omega) (by omega) (by omega)]
      rw [hb] at step
      refine step _ (House_sightings w k) (House_lastSeen w k) (I ((b + 1 : Nat) : Int)) (I (max (c : Int) ((b + 1 : Nat) : Int))) ?_ ?_ (fun q => ?_) ?_ ?_ ?_ ?_ ?_ ?_
      · unfold SGm
        rw [Ho_rooms_longestRuns, Ho_rooms_runs, Ho_doors_longestRuns, Ho_doors_runs, Ho_guards_longestRuns, Ho_guards_runs, Ho_openDoors_longestRuns, Ho_openDoors_runs, Ho_walksStamp_longestRuns, Ho_walksStamp_runs, Ho_phasesStamp_longestRuns, Ho_phasesStamp_runs, Ho_doorFirst_longestRuns, Ho_doorFirst_runs, Ho_doorSecond_longestRuns, Ho_doorSecond_runs, Ho_joined_longestRuns, Ho_joined_runs, Ho_limits_longestRuns, Ho_limits_runs, Ho_periods_longestRuns, Ho_periods_runs, Ho_phases_longestRuns, Ho_phases_runs, Ho_walks_longestRuns, Ho_walks_runs, Ho_walked_longestRuns, Ho_walked_runs]
        exact ⟨rfl, rfl, rfl, rfl, rfl, rfl, rfl, rfl, rfl, rfl, rfl, rfl, rfl, rfl⟩
      · rw [Ho_minute_longestRuns, Ho_minute_runs]
      · rw [Ho_sightings_longestRuns, Ho_sightings_runs, Ho_lastSeen_longestRuns, Ho_lastSeen_runs, Ho_runs_longestRuns, Ho_runs_runs, Ho_longestRuns_longestRuns, upd_e, upd_e]
        refine ⟨?_, ?_, rfl, rfl⟩
        · split
          · rename_i hq; rw [hq]
          · rfl
        · split
          · rename_i hq; rw [hq]
          · rfl
      · rw [r2, bif_f, u1, s1, I0, I_add, Int.add_zero]
      · rw [r3, bif_f, u2]
      · rw [r4, bif_f, I_succ]
      · rw [r4, r5, bif_f, I_succ, imax_I (by omega) (by omega) (by omega) (by omega)]
      · refine ⟨a, b + 1, max c (b + 1), d, ?_, by omega, ?_, by omega, ?_, by omega, ?_, s8, by omega⟩
        · rw [Ho_sightings_longestRuns, Ho_sightings_runs, u1, s1]
        · rw [Ho_runs_longestRuns, Ho_runs_runs, upd_i]
        · rw [Ho_longestRuns_longestRuns, upd_i]
          congr 1
          omega
        · rw [Ho_lastSeen_longestRuns, Ho_lastSeen_runs, u2, s7]
      · unfold hS
        rw [Ho_sightings_longestRuns, Ho_sightings_runs, u1, bif_f, Int.add_zero]
    · rw [bif_t, gd_I (by omega) (by omega) (by omega), nmL_e, nmL_e, nmL_e, nmL_e, I_clamp k (by omega), I_succ, Ho_lastSeen_sightings, Ho_minute_sightings, Ho_runs_lastSeen, Ho_runs_sightings, u1, s1, I_succ, mi.trans eM]
      rw [hb] at step
      refine step _ (I ((a + 1 : Nat) : Int)) (I (hM v : Int)) 0 (House_longestRuns w k) ?_ ?_ (fun q => ?_) ?_ ?_ ?_ ?_ ?_ ?_
      · unfold SGm
        rw [Ho_rooms_runs, Ho_rooms_lastSeen, Ho_rooms_sightings, Ho_doors_runs, Ho_doors_lastSeen, Ho_doors_sightings, Ho_guards_runs, Ho_guards_lastSeen, Ho_guards_sightings, Ho_openDoors_runs, Ho_openDoors_lastSeen, Ho_openDoors_sightings, Ho_walksStamp_runs, Ho_walksStamp_lastSeen, Ho_walksStamp_sightings, Ho_phasesStamp_runs, Ho_phasesStamp_lastSeen, Ho_phasesStamp_sightings, Ho_doorFirst_runs, Ho_doorFirst_lastSeen, Ho_doorFirst_sightings, Ho_doorSecond_runs, Ho_doorSecond_lastSeen, Ho_doorSecond_sightings, Ho_joined_runs, Ho_joined_lastSeen, Ho_joined_sightings, Ho_limits_runs, Ho_limits_lastSeen, Ho_limits_sightings, Ho_periods_runs, Ho_periods_lastSeen, Ho_periods_sightings, Ho_phases_runs, Ho_phases_lastSeen, Ho_phases_sightings, Ho_walks_runs, Ho_walks_lastSeen, Ho_walks_sightings, Ho_walked_runs, Ho_walked_lastSeen, Ho_walked_sightings]
        exact ⟨rfl, rfl, rfl, rfl, rfl, rfl, rfl, rfl, rfl, rfl, rfl, rfl, rfl, rfl⟩
      · rw [Ho_minute_runs, Ho_minute_lastSeen, Ho_minute_sightings]
      · rw [Ho_sightings_runs, Ho_sightings_lastSeen, Ho_sightings_sightings, Ho_lastSeen_runs, Ho_lastSeen_lastSeen, Ho_runs_runs, Ho_longestRuns_runs, Ho_longestRuns_lastSeen, Ho_longestRuns_sightings, upd_e, upd_e, upd_e]
        refine ⟨rfl, rfl, rfl, ?_⟩
        split
        · rename_i hq; rw [hq]
        · rfl
      · rw [r2, bif_t, I_succ]
      · rw [bif_t, rm, eM]
      · rw [bif_t]
      · rw [r5, bif_t, I0, imax_I (by omega) (by omega) (by omega) (by omega), u4, s5, show max (c : Int) 0 = c by omega]
      · refine ⟨a + 1, 0, c, (hM v : Int), ?_, by omega, ?_, by omega, ?_, by omega, ?_, by omega, by omega⟩
        · rw [Ho_sightings_runs, Ho_sightings_lastSeen, Ho_sightings_sightings, upd_i]
        · rw [Ho_runs_runs, upd_i]; rfl
        · rw [Ho_longestRuns_runs, Ho_longestRuns_lastSeen, Ho_longestRuns_sightings, u4, s5]
        · rw [Ho_lastSeen_runs, Ho_lastSeen_lastSeen, upd_i]
      · unfold hS
        rw [Ho_sightings_runs, Ho_sightings_lastSeen, Ho_sightings_sightings, upd_i, bif_t, I_clamp (a + 1) (by omega), s1, I_clamp a (by omega)]
        omega
end PASS
