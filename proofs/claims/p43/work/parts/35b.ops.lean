section OPSX
variable {v w : HouseV} {g : GWV}
/-- runs are no longer than the longest ones -/
def WFq (v : HouseV) : Prop := ∀ r, r < 12 → uN v r ≤ gN v r
/-- walks go through open doors -/
def WFx (v : HouseV) : Prop := ∀ q, q < hG v → ∀ s, s < hP v q → go v (hW v q s) (hW v q ((s + 1) % hP v q)) = true
def HX (v : HouseV) : Prop := HOK v ∧ WFq v ∧ WFx v
theorem jm_c (h1 : hD w = hD v) (h2 : hO w = hO v) (h3 : hA w = hA v) (h4 : hB w = hB v) (r : Nat) : jm w r = jm v r := by
  unfold jm dj opn
  rw [h1, h2, h3, h4]
theorem wfx_c (h1 : ∀ r, r < hR v → jm w r = jm v r) (h2 : hG w = hG v) (h3 : ∀ q, q < hG v → hP w q = hP v q) (h4 : ∀ q s, q < hG v → s < hP v q → hW w q s = hW v q s) (hw : WFG v) (h : WFx v) : WFx w := by
  intro q hq s hs
  rw [h2] at hq
  rw [h3 q hq] at hs ⊢
  have hp := hw.per q hq
  have hm : (s + 1) % hP v q < hP v q := Nat.mod_lt _ (by omega)
  have hr := ((hw q hq).1.2.2.1 s hs).2
  have := h q hq s hs
  unfold go at this ⊢
  rw [h4 q s hq hs, h4 q _ hq hm, h1 _ hr]
  exact this
theorem wfq_c (h1 : House_runs w = House_runs v) (h2 : House_longestRuns w = House_longestRuns v) (h : WFq v) : WFq w := by
  intro r hr
  have := h r hr
  unfold uN gN at this ⊢
  rw [h1, h2]
  exact this
theorem hc_hx (h : HC w v) (hv : HX v) : HX w := by
  obtain ⟨h1, h2, h3⟩ := hv
  have hn := h1.1
  have hG4 := hn.2.2.2.2.2.2.1
  refine ⟨hc_ok h h1, fun r hr => ?_, wfx_c (fun r _ => hc_jm h hn r) (hc_G h) (fun q hq => hc_P h (by omega)) (fun q s hq hs => hc_W h (by omega) (by have := h1.2.2.2.2.1.per q hq; omega)) h1.2.2.2.2.1 h3⟩
  have := h2 r hr
  obtain ⟨x1, x2, x3, x4, x5, x6⟩ := h.2.2.2.2.2.2.2.2.1 r hr
  unfold uN gN at this ⊢
  rw [x5, x6]
  exact this
theorem rsN_le {S : Nat → Bool} {b c : Nat} (h : b ≤ c) (n : Nat) : (rsN S b c n).1 ≤ (rsN S b c n).2 := by
  induction n with
  | zero => exact h
  | succ n ih =>
    rw [rsN]
    cases S n
    · rw [bif_f]; show _ ≤ max _ _; omega
    · rw [bif_t]; exact Nat.zero_le _
theorem past_hx {n : Nat} (hv : HX v) (h : PAST v w n) : HX w := by
  obtain ⟨p1, p2, p3, p4, p5⟩ := h
  obtain ⟨h1, h2, h3⟩ := hv
  obtain ⟨n1, n2, n3, n4, n5, n6, n7, n8, n9, n10⟩ := sgm_n p1
  refine ⟨p3, fun r hr => ?_, wfx_c (fun r _ => jm_c n2 n4 n5 n6 r) n3 (fun q _ => by rw [n8]) (fun q s _ _ => by rw [n10]) h1.2.2.2.2.1 h3⟩
  by_cases c : r < hR v
  · obtain ⟨q1, q2, q3⟩ := p4 r c
    rw [q2, q3]
    exact rsN_le (h2 r hr) n
  · obtain ⟨q1, q2, q3, q4⟩ := p5 r (by omega)
    have := h2 r hr
    unfold uN gN at this ⊢
    rw [q3, q4]
    exact this
/-! other phases -/
theorem sp_sp (v : HouseV) (f f' : Nat → Int32) : House_set_phases (House_set_phases v f) f' = House_set_phases v f' := rfl
theorem sp_eq (v : HouseV) : House_set_phases v (House_phases v) = v := rfl
theorem phs_hx (hv : HX v) {f : Nat → Int32} {φ : Nat → Nat} (hf : ∀ q, q < hG v → f q = I (φ q : Int)) (hb : box (hP v) φ (hG v)) : HX (House_set_phases v f) := by
  obtain ⟨⟨hn, hd, hj, hl, hw, hs⟩, h2, h3⟩ := hv
  have hw' := WFG_h hw hf hb
  refine ⟨⟨sp_n f hn, wfd_c (Ho_doors_phases _ _) (Ho_rooms_phases _ _) (Ho_doorFirst_phases _ _) (Ho_doorSecond_phases _ _) hd, wfj_c (Ho_doors_phases _ _) (Ho_openDoors_phases _ _) (Ho_doorFirst_phases _ _) (Ho_doorSecond_phases _ _) (Ho_joined_phases _ _) hj, wfl_c (Ho_limits_phases _ _) hl, hw', wfs_c (Ho_minute_phases _ _) (Ho_sightings_phases _ _) (Ho_runs_phases _ _) (Ho_longestRuns_phases _ _) (Ho_lastSeen_phases _ _) hs⟩, wfq_c (Ho_runs_phases _ _) (Ho_longestRuns_phases _ _) h2, wfx_c (fun r _ => ?_) (sp_G v f) (fun q _ => by rw [sp_P]) (fun q s _ _ => by rw [sp_W]) hw h3⟩
  refine jm_c ?_ ?_ ?_ ?_ r
  · unfold hD; rw [Ho_doors_phases]
  · unfold hO; rw [Ho_openDoors_phases]
  · unfold hA; rw [Ho_doorFirst_phases]
  · unfold hB; rw [Ho_doorSecond_phases]
/-- all but the stamps -/
theorem stampP_hx (hv : HX v) (x : Int32) : HX (House_set_phasesStamp v x) := by
  obtain ⟨⟨hn, hd, hj, hl, hw, hs⟩, h2, h3⟩ := hv
  have eP : hP (House_set_phasesStamp v x) = hP v := by unfold hP; rw [Ho_periods_phasesStamp]
  have eW : hW (House_set_phasesStamp v x) = hW v := by unfold hW; rw [Ho_walks_phasesStamp]
  have eG : hG (House_set_phasesStamp v x) = hG v := by unfold hG; rw [Ho_guards_phasesStamp]
  refine ⟨⟨wfn_c (Ho_rooms_phasesStamp _ _) (Ho_doors_phasesStamp _ _) (Ho_guards_phasesStamp _ _) (Ho_minute_phasesStamp _ _) (Ho_openDoors_phasesStamp _ _) hn, wfd_c (Ho_doors_phasesStamp _ _) (Ho_rooms_phasesStamp _ _) (Ho_doorFirst_phasesStamp _ _) (Ho_doorSecond_phasesStamp _ _) hd, wfj_c (Ho_doors_phasesStamp _ _) (Ho_openDoors_phasesStamp _ _) (Ho_doorFirst_phasesStamp _ _) (Ho_doorSecond_phasesStamp _ _) (Ho_joined_phasesStamp _ _) hj, wfl_c (Ho_limits_phasesStamp _ _) hl, wfG_c (Ho_rooms_phasesStamp _ _) (Ho_guards_phasesStamp _ _) (Ho_periods_phasesStamp _ _) (Ho_phases_phasesStamp _ _) (Ho_walks_phasesStamp _ _) (Ho_walked_phasesStamp _ _) hw, wfs_c (Ho_minute_phasesStamp _ _) (Ho_sightings_phasesStamp _ _) (Ho_runs_phasesStamp _ _) (Ho_longestRuns_phasesStamp _ _) (Ho_lastSeen_phasesStamp _ _) hs⟩, wfq_c (Ho_runs_phasesStamp _ _) (Ho_longestRuns_phasesStamp _ _) h2, wfx_c (fun r _ => ?_) eG (fun q _ => by rw [eP]) (fun q s _ _ => by rw [eW]) hw h3⟩
  refine jm_c ?_ ?_ ?_ ?_ r
  · unfold hD; rw [Ho_doors_phasesStamp]
  · unfold hO; rw [Ho_openDoors_phasesStamp]
  · unfold hA; rw [Ho_doorFirst_phasesStamp]
  · unfold hB; rw [Ho_doorSecond_phasesStamp]
/-- all fields but those of the phases and the stamps -/
def FP (w v : HouseV) : Prop := House_rooms w = House_rooms v ∧ House_doors w = House_doors v ∧ House_guards w = House_guards v ∧ House_minute w = House_minute v ∧ House_openDoors w = House_openDoors v ∧ House_doorFirst w = House_doorFirst v ∧ House_doorSecond w = House_doorSecond v ∧ House_joined w = House_joined v ∧ House_limits w = House_limits v ∧ House_periods w = House_periods v ∧ House_walks w = House_walks v ∧ House_walked w = House_walked v ∧ House_sightings w = House_sightings v ∧ House_lastSeen w = House_lastSeen v ∧ House_runs w = House_runs v ∧ House_longestRuns w = House_longestRuns v
theorem fp_sp (v : HouseV) (f : Nat → Int32) (x : Int32) : FP (House_set_phasesStamp (House_set_phases v f) x) v := ⟨(Ho_rooms_phasesStamp _ _).trans (Ho_rooms_phases _ _), (Ho_doors_phasesStamp _ _).trans (Ho_doors_phases _ _), (Ho_guards_phasesStamp _ _).trans (Ho_guards_phases _ _), (Ho_minute_phasesStamp _ _).trans (Ho_minute_phases _ _), (Ho_openDoors_phasesStamp _ _).trans (Ho_openDoors_phases _ _), (Ho_doorFirst_phasesStamp _ _).trans (Ho_doorFirst_phases _ _), (Ho_doorSecond_phasesStamp _ _).trans (Ho_doorSecond_phases _ _), (Ho_joined_phasesStamp _ _).trans (Ho_joined_phases _ _), (Ho_limits_phasesStamp _ _).trans (Ho_limits_phases _ _), (Ho_periods_phasesStamp _ _).trans (Ho_periods_phases _ _), (Ho_walks_phasesStamp _ _).trans (Ho_walks_phases _ _), (Ho_walked_phasesStamp _ _).trans (Ho_walked_phases _ _), (Ho_sightings_phasesStamp _ _).trans (Ho_sightings_phases _ _), (Ho_lastSeen_phasesStamp _ _).trans (Ho_lastSeen_phases _ _), (Ho_runs_phasesStamp _ _).trans (Ho_runs_phases _ _), (Ho_longestRuns_phasesStamp _ _).trans (Ho_longestRuns_phases _ _)⟩
theorem fp_n (h : FP w v) : hR w = hR v ∧ hD w = hD v ∧ hG w = hG v ∧ hM w = hM v ∧ hO w = hO v ∧ hA w = hA v ∧ hB w = hB v ∧ hL w = hL v ∧ hP w = hP v ∧ hW w = hW v := by
  obtain ⟨a1, a2, a3, a4, a5, a6, a7, a8, a9, a10, a11, a12, a13, a14, a15, a16⟩ := h
  unfold hR hD hG hM hO hA hB hL hP hW
  rw [a1, a2, a3, a4, a5, a6, a7, a9, a10, a11]
  exact ⟨rfl, rfl, rfl, rfl, rfl, rfl, rfl, rfl, rfl, rfl⟩
/-- a house whose stamps are known, and that is well -/
def JX (Φ Ψ : Nat → HouseV) (ls : Nat) (v : HouseV) : Prop := JJ Φ Ψ ls v ∧ HX v
variable {Φ Ψ Φ' Ψ' : Nat → HouseV} {ls ls' : Nat}
theorem JX.mono (h : JX Φ Ψ ls v) (hl : ls ≤ ls') (h1 : ∀ p, p ≤ ls → Φ' p = Φ p) (h2 : ∀ p, p ≤ ls → Ψ' p = Ψ p) : JX Φ' Ψ' ls' v := ⟨h.1.mono hl h1 h2, h.2⟩
theorem JX.hc (h : HC w v) (hv : JX Φ Ψ ls v) : JX Φ Ψ ls w := ⟨JJ.hc w v h hv.1, hc_hx h hv.2⟩
/-- the phases are others -/
theorem phases_q (hj : JX Φ Ψ ls v) (hls : GW_lastStamp g = I (ls : Int)) (hl : ls ≤ 100000) {f : Nat → Int32} {φ : Nat → Nat} (hf : ∀ q, q < hG v → f q = I (φ q : Int)) (hb : box (hP v) φ (hG v)) : ∃ g' w Φ', GW_markPhasesChanged g (House_set_phases v f) = some (g', w) ∧ GW_lastStamp g' = I ((ls + 1 : Nat) : Int) ∧ (∀ p, p ≤ ls → Φ' p = Φ p) ∧ JX Φ' Ψ (ls + 1) w ∧ FP w v ∧ House_phases w = f ∧ (∀ q, q < hG v → hF w q = φ q) ∧ SW w (HS v φ) ∧ WE w v := by
  have hv := hj.2
  have hw := hv.1.2.2.2.2.1
  have hfp := fp_sp v f (I ((ls + 1 : Nat) : Int))
  have hx := stampP_hx (phs_hx hv hf hb) (I ((ls + 1 : Nat) : Int))
  have hwe : WE (House_set_phasesStamp (House_set_phases v f) (I ((ls + 1 : Nat) : Int))) v := we_c hw hfp.1 hfp.2.2.1 hfp.2.2.2.2.2.2.2.2.2.1 hfp.2.2.2.2.2.2.2.2.2.2.1
  have hph : House_phases (House_set_phasesStamp (House_set_phases v f) (I ((ls + 1 : Nat) : Int))) = f := (Ho_phases_phasesStamp _ _).trans (Ho_phases_phases _ _)
  have hws : House_walksStamp (House_set_phasesStamp (House_set_phases v f) (I ((ls + 1 : Nat) : Int))) = House_walksStamp v := (Ho_walksStamp_phasesStamp _ _).trans (Ho_walksStamp_phases _ _)
  have hps : House_phasesStamp (House_set_phasesStamp (House_set_phases v f) (I ((ls + 1 : Nat) : Int))) = I ((ls + 1 : Nat) : Int) := Ho_phasesStamp_phasesStamp _ _
  have hsw : SW (House_set_phasesStamp (House_set_phases v f) (I ((ls + 1 : Nat) : Int))) (HS v φ) := sw_trans (sw_c (Ho_rooms_phasesStamp _ _) (Ho_guards_phasesStamp _ _) (Ho_periods_phasesStamp _ _) (Ho_phases_phasesStamp _ _) (Ho_walks_phasesStamp _ _)) (HS_h hf)
  refine ⟨GW_set_lastStamp g (I ((ls + 1 : Nat) : Int)), House_set_phasesStamp (House_set_phases v f) (I ((ls + 1 : Nat) : Int)), ?_⟩
  have hm : GW_markPhasesChanged g (House_set_phases v f) = some (GW_set_lastStamp g (I ((ls + 1 : Nat) : Int)), House_set_phasesStamp (House_set_phases v f) (I ((ls + 1 : Nat) : Int))) := by
    unfold GW_markPhasesChanged
    rw [nmL_e, nmL_e, hls, I_succ]
    rfl
  revert hfp hx hwe hph hws hps hsw hm
  generalize House_set_phasesStamp (House_set_phases v f) (I ((ls + 1 : Nat) : Int)) = w
  intro hfp hx hwe hph hws hps hsw hm
  obtain ⟨Φ', f1, f2⟩ := hj.1.phases hx.1 hps hws hwe
  refine ⟨Φ', hm, rfl, f1, ⟨f2, hx⟩, hfp, hph, fun q hq => ?_, hsw, hwe⟩
  have hp := hw.per q hq
  have hq2 := hb q hq
  unfold hF
  rw [hph, hf q hq, I_clamp _ (by omega)]
/-! limits -/
theorem limit_hx (hv : HX v) {r a : Nat} (hr : r < hR v) (ha : a ≤ 99) : HX (House_set_limits v (upd (House_limits v) r (I (a : Int)))) := by
  obtain ⟨⟨hn, hd, hj, hl, hw, hs⟩, h2, h3⟩ := hv
  have hR12 := hn.2.2.1
  have eP : hP (House_set_limits v (upd (House_limits v) r (I (a : Int)))) = hP v := by unfold hP; rw [Ho_periods_limits]
  have eW : hW (House_set_limits v (upd (House_limits v) r (I (a : Int)))) = hW v := by unfold hW; rw [Ho_walks_limits]
  have eG : hG (House_set_limits v (upd (House_limits v) r (I (a : Int)))) = hG v := by unfold hG; rw [Ho_guards_limits]
  refine ⟨⟨wfn_c (Ho_rooms_limits _ _) (Ho_doors_limits _ _) (Ho_guards_limits _ _) (Ho_minute_limits _ _) (Ho_openDoors_limits _ _) hn, wfd_c (Ho_doors_limits _ _) (Ho_rooms_limits _ _) (Ho_doorFirst_limits _ _) (Ho_doorSecond_limits _ _) hd, wfj_c (Ho_doors_limits _ _) (Ho_openDoors_limits _ _) (Ho_doorFirst_limits _ _) (Ho_doorSecond_limits _ _) (Ho_joined_limits _ _) hj, fun q hq => ?_, wfG_c (Ho_rooms_limits _ _) (Ho_guards_limits _ _) (Ho_periods_limits _ _) (Ho_phases_limits _ _) (Ho_walks_limits _ _) (Ho_walked_limits _ _) hw, wfs_c (Ho_minute_limits _ _) (Ho_sightings_limits _ _) (Ho_runs_limits _ _) (Ho_longestRuns_limits _ _) (Ho_lastSeen_limits _ _) hs⟩, wfq_c (Ho_runs_limits _ _) (Ho_longestRuns_limits _ _) h2, wfx_c (fun r _ => ?_) eG (fun q _ => by rw [eP]) (fun q s _ _ => by rw [eW]) hw h3⟩
  · unfold hL
    rw [Ho_limits_limits]
    by_cases c : q = r
    · rw [c, upd_i, I_clamp a (by omega)]
      exact ⟨rfl, ha⟩
    · rw [upd_n c]
      exact hl q hq
  · refine jm_c ?_ ?_ ?_ ?_ r
    · unfold hD; rw [Ho_doors_limits]
    · unfold hO; rw [Ho_openDoors_limits]
    · unfold hA; rw [Ho_doorFirst_limits]
    · unfold hB; rw [Ho_doorSecond_limits]
/-! doors -/
/-- all fields but those of the open doors -/
def FD (w v : HouseV) : Prop := House_rooms w = House_rooms v ∧ House_doors w = House_doors v ∧ House_guards w = House_guards v ∧ House_minute w = House_minute v ∧ House_doorFirst w = House_doorFirst v ∧ House_doorSecond w = House_doorSecond v ∧ House_limits w = House_limits v ∧ House_periods w = House_periods v ∧ House_phases w = House_phases v ∧ House_walks w = House_walks v ∧ House_walked w = House_walked v ∧ House_sightings w = House_sightings v ∧ House_lastSeen w = House_lastSeen v ∧ House_runs w = House_runs v ∧ House_longestRuns w = House_longestRuns v ∧ House_walksStamp w = House_walksStamp v ∧ House_phasesStamp w = House_phasesStamp v
theorem fd_n (h : FD w v) : hR w = hR v ∧ hD w = hD v ∧ hG w = hG v ∧ hM w = hM v ∧ hA w = hA v ∧ hB w = hB v ∧ hL w = hL v ∧ hP w = hP v ∧ hF w = hF v ∧ hW w = hW v := by
  obtain ⟨a1, a2, a3, a4, a5, a6, a7, a8, a9, a10, a11, a12, a13, a14, a15, a16, a17⟩ := h
  unfold hR hD hG hM hA hB hL hP hF hW
  rw [a1, a2, a3, a4, a5, a6, a7, a8, a9, a10]
  exact ⟨rfl, rfl, rfl, rfl, rfl, rfl, rfl, rfl, rfl, rfl⟩
theorem setDoor_q (hv : HOK v) {d : Nat} (h : d < hD v) (b : Bool) : ∃ w, House_setOpen (I (d : Int)) b v = some w ∧ HOK w ∧ FD w v ∧ ∀ q, opn w q = if q = d then b else opn v q := by
  obtain ⟨hn, hd, hj, hl, hw, hs⟩ := hv
  have hD20 : hD v ≤ 20 := hn.2.2.2.2.1
  have hOl : hO v < 2 ^ hD v := hn.2.2.2.2.2.2.2.2.2.2
  obtain ⟨j', e, hj'⟩ := setOpen_s hn hd h b
  have hob : (bif b then hO v ||| 1 <<< d else sdf (hO v) (1 <<< d)) < 2 ^ hD v := by
    cases b
    · exact sdf_lt hOl
    · exact or_lt hOl (bit_lt h)
  have hbit : ∀ q, (bif b then hO v ||| 1 <<< d else sdf (hO v) (1 <<< d)).testBit q = if q = d then b else opn v q := by
    intro q
    have ht : (1 <<< d).testBit q = decide (d = q) := tb_one d q
    cases b
    · rw [bif_f, sdf_bit, ht]
      by_cases c : q = d
      · rw [if_pos c, decide_eq_true c.symm, Bool.not_true, Bool.and_false]
      · rw [if_neg c, decide_eq_false (fun h => c h.symm), Bool.not_false, Bool.and_true]; rfl
    · rw [bif_t, Nat.testBit_or, ht]
      by_cases c : q = d
      · rw [if_pos c, decide_eq_true c.symm, Bool.or_true]
      · rw [if_neg c, decide_eq_false (fun h => c h.symm), Bool.or_false]; rfl
  generalize (bif b then hO v ||| 1 <<< d else sdf (hO v) (1 <<< d)) = o at e hj' hob hbit
  have hpo : o < 2147483648 := Nat.lt_of_lt_of_le hob (Nat.le_trans (two_pow_le (by omega)) (by decide))
  obtain ⟨x, hx⟩ : ∃ x, x = I (o : Int) := ⟨_, rfl⟩
  rw [← hx] at e hj'
  refine ⟨_, e, ?_⟩
  have f1 : House_rooms (House_set_joined (House_set_openDoors v x) j') = House_rooms v := by rw [Ho_rooms_joined, Ho_rooms_openDoors]
  have f2 : House_doors (House_set_joined (House_set_openDoors v x) j') = House_doors v := by rw [Ho_doors_joined, Ho_doors_openDoors]
  have f3 : House_guards (House_set_joined (House_set_openDoors v x) j') = House_guards v := by rw [Ho_guards_joined, Ho_guards_openDoors]
  have f4 : House_minute (House_set_joined (House_set_openDoors v x) j') = House_minute v := by rw [Ho_minute_joined, Ho_minute_openDoors]
  have f5 : House_openDoors (House_set_joined (House_set_openDoors v x) j') = x := by rw [Ho_openDoors_joined, Ho_openDoors_openDoors]
  have f6 : House_doorFirst (House_set_joined (House_set_openDoors v x) j') = House_doorFirst v := by rw [Ho_doorFirst_joined, Ho_doorFirst_openDoors]
  have f7 : House_doorSecond (House_set_joined (House_set_openDoors v x) j') = House_doorSecond v := by rw [Ho_doorSecond_joined, Ho_doorSecond_openDoors]
  have f8 : House_limits (House_set_joined (House_set_openDoors v x) j') = House_limits v := by rw [Ho_limits_joined, Ho_limits_openDoors]
  have f9 : House_periods (House_set_joined (House_set_openDoors v x) j') = House_periods v := by rw [Ho_periods_joined, Ho_periods_openDoors]
  have f10 : House_phases (House_set_joined (House_set_openDoors v x) j') = House_phases v := by rw [Ho_phases_joined, Ho_phases_openDoors]
  have f11 : House_walks (House_set_joined (House_set_openDoors v x) j') = House_walks v := by rw [Ho_walks_joined, Ho_walks_openDoors]
  have f12 : House_walked (House_set_joined (House_set_openDoors v x) j') = House_walked v := by rw [Ho_walked_joined, Ho_walked_openDoors]
  have f13 : House_sightings (House_set_joined (House_set_openDoors v x) j') = House_sightings v := by rw [Ho_sightings_joined, Ho_sightings_openDoors]
  have f14 : House_lastSeen (House_set_joined (House_set_openDoors v x) j') = House_lastSeen v := by rw [Ho_lastSeen_joined, Ho_lastSeen_openDoors]
  have f15 : House_runs (House_set_joined (House_set_openDoors v x) j') = House_runs v := by rw [Ho_runs_joined, Ho_runs_openDoors]
  have f16 : House_longestRuns (House_set_joined (House_set_openDoors v x) j') = House_longestRuns v := by rw [Ho_longestRuns_joined, Ho_longestRuns_openDoors]
  have f17 : House_walksStamp (House_set_joined (House_set_openDoors v x) j') = House_walksStamp v := by rw [Ho_walksStamp_joined, Ho_walksStamp_openDoors]
  have f18 : House_phasesStamp (House_set_joined (House_set_openDoors v x) j') = House_phasesStamp v := by rw [Ho_phasesStamp_joined, Ho_phasesStamp_openDoors]
  revert f1 f2 f3 f4 f5 f6 f7 f8 f9 f10 f11 f12 f13 f14 f15 f16 f17 f18 hj'
  generalize House_set_joined (House_set_openDoors v x) j' = w
  intro hj' f1 f2 f3 f4 f5 f6 f7 f8 f9 f10 f11 f12 f13 f14 f15 f16 f17 f18
  have gO : hO w = o := by unfold hO; rw [f5, hx]; exact I_clamp o hpo
  refine ⟨⟨?_, wfd_c f2 f1 f6 f7 hd, hj', wfl_c f8 hl, wfG_c f1 f3 f9 f10 f11 f12 hw, wfs_c f4 f13 f15 f16 f14 hs⟩, ⟨f1, f2, f3, f4, f6, f7, f8, f9, f10, f11, f12, f13, f14, f15, f16, f17, f18⟩, fun q => ?_⟩
  · obtain ⟨a1, a2, a3, a4, a5, a6, a7, a8, a9, a10, a11⟩ := hn
    unfold WFn
    rw [gO, show hD w = hD v by unfold hD; rw [f2], show hG w = hG v by unfold hG; rw [f3], f1, f2, f3, f4, f5, show hR w = hR v by unfold hR; rw [f1], show hM w = hM v by unfold hM; rw [f4]]
    exact ⟨a1, a2, a3, a4, a5, a6, a7, a8, a9, hx, hob⟩
  · unfold opn
    rw [gO]
    exact hbit q
theorem go_iff (v : HouseV) (a b : Nat) : go v a b = true ↔ a = b ∨ ∃ d, d < hD v ∧ opn v d = true ∧ btw v a b d = true := by
  unfold go
  rw [Bool.or_eq_true, decide_eq_true_iff, jm_bit]
theorem btw_c (h1 : hA w = hA v) (h2 : hB w = hB v) (a b d : Nat) : btw w a b d = btw v a b d := by
  unfold btw
  rw [h1, h2]
theorem fd_hx (hv : HX v) (hw : HOK w) (hf : FD w v) (hx : WFx w) : HX w := ⟨hw, wfq_c hf.2.2.2.2.2.2.2.2.2.2.2.2.2.1 hf.2.2.2.2.2.2.2.2.2.2.2.2.2.2.1 hv.2.1, hx⟩
/-- a guard that goes through between the rooms of a door -/
theorem thr_of {q a b s : Nat} (hp : 1 ≤ hP v q) (hs : s < hP v q) (h : edge a b (hW v q s) (hW v q ((s + 1) % hP v q)) = true) : thr v a b q = true := by
  rw [thr_m hp]
  exact decide_eq_true (cnt_pos.mpr ⟨s, hs, h⟩)
theorem btw_edge (v : HouseV) (x y d : Nat) : btw v x y d = edge (hA v d) (hB v d) x y := by
  unfold btw edge
  rw [Bool.eq_iff_iff, Bool.or_eq_true, Bool.or_eq_true, Bool.and_eq_true, Bool.and_eq_true, Bool.and_eq_true, Bool.and_eq_true, decide_eq_true_iff, decide_eq_true_iff, decide_eq_true_iff, decide_eq_true_iff, decide_eq_true_iff, decide_eq_true_iff, decide_eq_true_iff, decide_eq_true_iff]
  constructor
  · rintro (⟨h1, h2⟩ | ⟨h1, h2⟩)
    · exact Or.inl ⟨h1.symm, h2.symm⟩
    · exact Or.inr ⟨h2.symm, h1.symm⟩
  · rintro (⟨h1, h2⟩ | ⟨h1, h2⟩)
    · exact Or.inl ⟨h1.symm, h2.symm⟩
    · exact Or.inr ⟨h2.symm, h1.symm⟩
theorem btw_swap {v : HouseV} {x y a b e : Nat} (h1 : edge a b x y = true) (h2 : btw v a b e = true) : btw v x y e = true := by
  unfold edge at h1
  unfold btw at h2 ⊢
  rw [Bool.or_eq_true, Bool.and_eq_true, Bool.and_eq_true, decide_eq_true_iff, decide_eq_true_iff, decide_eq_true_iff, decide_eq_true_iff] at h1 h2 ⊢
  rcases h1 with ⟨e1, e2⟩ | ⟨e1, e2⟩
  · rw [e1, e2]; exact h2
  · rw [e1, e2]; exact h2.symm
theorem open_hx (hv : HX v) {d : Nat} (hw : HOK w) (hf : FD w v) (ho : ∀ q, opn w q = if q = d then true else opn v q) : HX w := by
  obtain ⟨n1, n2, n3, n4, n5, n6, n7, n8, n9, n10⟩ := fd_n hf
  refine fd_hx hv hw hf fun q hq s hs => ?_
  rw [n3] at hq
  rw [n8] at hs ⊢
  rw [n10]
  have := hv.2.2 q hq s hs
  rw [go_iff] at this ⊢
  rcases this with h | ⟨e, e1, e2, e3⟩
  · exact Or.inl h
  · refine Or.inr ⟨e, by rw [n2]; exact e1, ?_, by rw [btw_c n5 n6]; exact e3⟩
    rw [ho]
    split
    · rfl
    · exact e2
theorem close_hx (hv : HX v) {d : Nat} (hd : d < hD v) (hw : HOK w) (hf : FD w v) (ho : ∀ q, opn w q = if q = d then false else opn v q) (hok : cnt (thr v (hA v d) (hB v d)) (hG v) = 0 ∨ ∃ e, e < hD v ∧ e ≠ d ∧ obt v d e = true) : HX w := by
  obtain ⟨n1, n2, n3, n4, n5, n6, n7, n8, n9, n10⟩ := fd_n hf
  refine fd_hx hv hw hf fun q hq s hs => ?_
  rw [n3] at hq
  rw [n8] at hs ⊢
  rw [n10]
  have hp := hv.1.2.2.2.2.1.per q hq
  have := hv.2.2 q hq s hs
  rw [go_iff] at this ⊢
  rcases this with h | ⟨e, e1, e2, e3⟩
  · exact Or.inl h
  · by_cases c : e = d
    · subst c
      rw [btw_edge] at e3
      rcases hok with h0 | ⟨e', x1, x2, x3⟩
      · have := thr_of hp.1 hs e3
        have h1 := cnt_0 h0 q hq
        rw [this] at h1
        cases h1
      · unfold obt at x3
        rw [Bool.and_eq_true] at x3
        refine Or.inr ⟨e', by rw [n2]; exact x1, by rw [ho, if_neg x2]; exact x3.1, ?_⟩
        rw [btw_c n5 n6]
        exact btw_swap e3 x3.2
    · exact Or.inr ⟨e, by rw [n2]; exact e1, by rw [ho, if_neg c]; exact e2, by rw [btw_c n5 n6]; exact e3⟩
theorem fd_jx (hj : JX Φ Ψ ls v) (hx : HX w) (hf : FD w v) : JX Φ Ψ ls w := by
  obtain ⟨a1, a2, a3, a4, a5, a6, a7, a8, a9, a10, a11, a12, a13, a14, a15, a16, a17⟩ := id hf
  exact ⟨hj.1.same hx.1 a17 a16 (sw_c a1 a3 a8 a9 a10) (we_c hj.2.1.2.2.2.2.1 a1 a3 a8 a10), hx⟩
variable {y : HistV} {e : Nat → HouseV} {c : Nat} {U : Nat → HouseV}
/-- an open door is not the only one, or nobody needs it -/
theorem closeDoor_q (hj : JX Φ Ψ ls v) (hh : HQ y e c U) {d : Nat} (hd : d < hD v) : (opn v d = false ∧ GW_closeDoor (I (d : Int)) g v y e = some (-2, v, y, e)) ∨ (opn v d = true ∧ 0 < cnt (thr v (hA v d) (hB v d)) (hG v) ∧ cnt (obt v d) (hD v) = 1 ∧ GW_closeDoor (I (d : Int)) g v y e = some (-3, v, y, e)) ∨ (opn v d = true ∧ ¬ (0 < cnt (thr v (hA v d) (hB v d)) (hG v) ∧ cnt (obt v d) (hD v) = 1) ∧ ∃ w y' e', GW_closeDoor (I (d : Int)) g v y e = some (I ((cnt (opn w) (hD w) : Nat) : Int), w, y', e') ∧ JX Φ Ψ ls w ∧ FD w v ∧ (∀ q, opn w q = if q = d then false else opn v q) ∧ HQ y' e' (min (c + 1) 10) (psh v U) ∧ Hist_saved y' = Hist_saved y) := by
  have hv := hj.2
  obtain ⟨hn, hdd, hjj, hl, hw, hs⟩ := id hv.1
  have hD20 := hn.2.2.2.2.1
  have hG4 := hn.2.2.2.2.2.2.1
  have hcl := cnt_le (thr v (hA v d) (hB v d)) (hG v)
  unfold GW_closeDoor
  rw [needDoor_o hn hd, bind_s, isOpen_s hn (by omega), bind_s, show (hO v).testBit d = opn v d from rfl]
  cases ho : opn v d
  · left
    rw [bif_f]
    exact ⟨rfl, rfl⟩
  · right
    rw [bif_t, through_s hn hdd hw hd, bind_s]
    have done : (cnt (thr v (hA v d) (hB v d)) (hG v) = 0 ∨ ∃ e, e < hD v ∧ e ≠ d ∧ obt v d e = true) → ∃ w y' e', GW_closeDoor_44 (I (d : Int)) g v y e = some (I ((cnt (opn w) (hD w) : Nat) : Int), w, y', e') ∧ JX Φ Ψ ls w ∧ FD w v ∧ (∀ q, opn w q = if q = d then false else opn v q) ∧ HQ y' e' (min (c + 1) 10) (psh v U) ∧ Hist_saved y' = Hist_saved y := by
      intro hok
      obtain ⟨y', e', r1, r2, r3⟩ := record_q hh v
      obtain ⟨w, w1, w2, w3, w4⟩ := setDoor_q hv.1 hd false
      have hx := close_hx hv hd w2 w3 w4 hok
      refine ⟨w, y', e', ?_, fd_jx hj hx w3, w3, w4, r2, r3⟩
      unfold GW_closeDoor_44
      rw [r1, bind_s, w1, bind_s, openAll_s w2.1, bind_s]
    by_cases c1 : cnt (thr v (hA v d) (hB v d)) (hG v) = 0
    · right
      rw [c1, if_pos (by decide)]
      exact ⟨rfl, fun q => by omega, done (Or.inl c1)⟩
    · rw [if_neg (show ¬ I ((cnt (thr v (hA v d) (hB v d)) (hG v) : Nat) : Int) ≤ 0 from I_le_f (b := 0) (by omega) (by omega) (by omega)), other_s hn hdd hd ho, bind_s]
      by_cases c2 : cnt (obt v d) (hD v) = 1
      · left
        rw [decide_eq_false (fun q => q c2), bif_f]
        exact ⟨rfl, by omega, c2, rfl⟩
      · right
        rw [decide_eq_true c2, bif_t]
        have hself : obt v d d = true := by
          unfold obt btw
          rw [ho, decide_eq_true rfl, decide_eq_true rfl]; rfl
        have hex : ∃ e, e < hD v ∧ e ≠ d ∧ obt v d e = true := by
          apply Classical.byContradiction
          intro hno
          have h1 : cnt (obt v d) (hD v) ≤ 1 := cnt_one_only (x := d) fun x x1 x2 => by
            cases hx : obt v d x
            · rfl
            · exact absurd ⟨x, x1, x2, hx⟩ hno
          have h2 : 0 < cnt (obt v d) (hD v) := cnt_pos.mpr ⟨d, hd, hself⟩
          omega
        exact ⟨rfl, fun q => c2 q.2, done (Or.inr hex)⟩
theorem openDoor_q (hj : JX Φ Ψ ls v) (hh : HQ y e c U) {d : Nat} (hd : d < hD v) : (opn v d = true ∧ GW_openDoor (I (d : Int)) g v y e = some (-2, v, y, e)) ∨ (opn v d = false ∧ ∃ w y' e', GW_openDoor (I (d : Int)) g v y e = some (I ((cnt (opn w) (hD w) : Nat) : Int), w, y', e') ∧ JX Φ Ψ ls w ∧ FD w v ∧ (∀ q, opn w q = if q = d then true else opn v q) ∧ HQ y' e' (min (c + 1) 10) (psh v U) ∧ Hist_saved y' = Hist_saved y) := by
  have hv := hj.2
  obtain ⟨hn, hdd, hjj, hl, hw, hs⟩ := id hv.1
  have hD20 := hn.2.2.2.2.1
  unfold GW_openDoor
  rw [needDoor_o hn hd, bind_s, isOpen_s hn (by omega), bind_s, show (hO v).testBit d = opn v d from rfl]
  cases ho : opn v d
  · right
    obtain ⟨y', e', r1, r2, r3⟩ := record_q hh v
    obtain ⟨w, w1, w2, w3, w4⟩ := setDoor_q hv.1 hd true
    have hx := open_hx hv w2 w3 w4
    refine ⟨rfl, w, y', e', ?_, fd_jx hj hx w3, w3, w4, r2, r3⟩
    rw [bif_f, r1, bind_s, w1, bind_s, openAll_s w2.1, bind_s]
  · left
    rw [bif_t]
    exact ⟨rfl, rfl⟩
/-- all fields but the limits -/
def FLm (w v : HouseV) : Prop := House_rooms w = House_rooms v ∧ House_doors w = House_doors v ∧ House_guards w = House_guards v ∧ House_minute w = House_minute v ∧ House_openDoors w = House_openDoors v ∧ House_doorFirst w = House_doorFirst v ∧ House_doorSecond w = House_doorSecond v ∧ House_periods w = House_periods v ∧ House_phases w = House_phases v ∧ House_walks w = House_walks v
theorem flm_n (h : FLm w v) : hR w = hR v ∧ hD w = hD v ∧ hG w = hG v ∧ hM w = hM v ∧ hO w = hO v ∧ hA w = hA v ∧ hB w = hB v ∧ hP w = hP v ∧ hF w = hF v ∧ hW w = hW v := by
  obtain ⟨a1, a2, a3, a4, a5, a6, a7, a8, a9, a10⟩ := h
  unfold hR hD hG hM hO hA hB hP hF hW
  rw [a1, a2, a3, a4, a5, a6, a7, a8, a9, a10]
  exact ⟨rfl, rfl, rfl, rfl, rfl, rfl, rfl, rfl, rfl, rfl⟩
theorem setLimit_q (hj : JX Φ Ψ ls v) (hl : ls ≤ 100000) (hh : HQ y e c U) {s : SightV} (hs : SI2 Φ ls s) {r a : Nat} (hr : r < hR v) (ha : a ≤ 99) : ∃ w y' e' s', GW_setLimit (I (r : Int)) (I (a : Int)) g v y e s = some (I ((cnt (late w) (hR w) : Nat) : Int), w, y', e', s') ∧ JX Φ Ψ ls w ∧ FLm w v ∧ (∀ q, hL w q = if q = r then a else hL v q) ∧ SI2 Φ ls s' ∧ HQ y' e' (min (c + 1) 10) (psh v U) ∧ Hist_saved y' = Hist_saved y := by
  have hv := hj.2
  have hR12 := hv.1.1.2.2.1
  obtain ⟨y', e', r1, r2, r3⟩ := record_q hh v
  have hx := limit_hx hv hr ha
  have f1 : FLm (House_set_limits v (upd (House_limits v) r (I (a : Int)))) v := ⟨Ho_rooms_limits _ _, Ho_doors_limits _ _, Ho_guards_limits _ _, Ho_minute_limits _ _, Ho_openDoors_limits _ _, Ho_doorFirst_limits _ _, Ho_doorSecond_limits _ _, Ho_periods_limits _ _, Ho_phases_limits _ _, Ho_walks_limits _ _⟩
  have f2 : ∀ q, hL (House_set_limits v (upd (House_limits v) r (I (a : Int)))) q = if q = r then a else hL v q := fun q => by
    unfold hL
    rw [Ho_limits_limits]
    by_cases c : q = r
    · rw [if_pos c, c, upd_i, I_clamp a (by omega)]
    · rw [if_neg c, upd_n c]
  have f3 : JX Φ Ψ ls (House_set_limits v (upd (House_limits v) r (I (a : Int)))) := ⟨hj.1.same hx.1 (Ho_phasesStamp_limits _ _) (Ho_walksStamp_limits _ _) (sw_c f1.1 f1.2.2.1 f1.2.2.2.2.2.2.2.1 f1.2.2.2.2.2.2.2.2.1 f1.2.2.2.2.2.2.2.2.2) (we_c hv.1.2.2.2.2.1 f1.1 f1.2.2.1 f1.2.2.2.2.2.2.2.1 f1.2.2.2.2.2.2.2.2.2), hx⟩
  have hlim : GW_setLimit (I (r : Int)) (I (a : Int)) g v y e s = Option.bind (GW_measured g (House_set_limits v (upd (House_limits v) r (I (a : Int)))) s) fun p34 => Option.bind (Sight_countLate p34 (House_set_limits v (upd (House_limits v) r (I (a : Int))))) fun p41 => some (p41, House_set_limits v (upd (House_limits v) r (I (a : Int))), y', e', p34) := by
    unfold GW_setLimit
    rw [needRoom_o hv.1.1 hr, bind_s, show (0 : Int32) = I 0 from rfl, show (99 : Int32) = I 99 from rfl, needRange_o (by omega) (by omega) (by omega) (by omega), bind_s, r1, bind_s, gd_I (by omega) (by omega) (by omega), nmL_e, I_clamp r (by omega)]
  rw [hlim]
  clear hlim
  revert hx f1 f2 f3
  generalize House_set_limits v (upd (House_limits v) r (I (a : Int))) = w
  intro hx f1 f2 f3
  obtain ⟨s', m1, m2, m3⟩ := measured_s hx.1.1 hx.1.2.2.2.2.1 (hs.ms f3.1 hl) g
  refine ⟨w, y', e', s', ?_, f3, f1, f2, SI2.of f3.1 m2 m3, r2, r3⟩
  rw [m1, bind_s, countLate_s hx.1.1 hx.1.2.2.2.2.1 hx.1.2.2.2.1 m2, bind_s]
/-- a shift -/
theorem shift_q (hj : JX Φ Ψ ls v) (hls : GW_lastStamp g = I (ls : Int)) (hl : ls ≤ 90000) (hh : HQ y e c U) {s : SightV} (hs : SI2 Φ ls s) {q p : Nat} (hq : q < hG v) (hp : p < hP v q) : ∃ g' w y' e' s' Φ', GW_shift (I (q : Int)) (I (p : Int)) g v y e s = some (I (worst w), g', w, y', e', s') ∧ GW_lastStamp g' = I ((ls + 1 : Nat) : Int) ∧ (∀ p, p ≤ ls → Φ' p = Φ p) ∧ JX Φ' Ψ (ls + 1) w ∧ FP w v ∧ (∀ j, j < hG v → hF w j = if j = q then p else hF v j) ∧ SI2 Φ' (ls + 1) s' ∧ HQ y' e' (min (c + 1) 10) (psh v U) ∧ Hist_saved y' = Hist_saved y := by
  have hv := hj.2
  have hw := hv.1.2.2.2.2.1
  have hG4 := hv.1.1.2.2.2.2.2.2.1
  have hper := hw.per q hq
  obtain ⟨y', e', r1, r2, r3⟩ := record_q hh v
  have hf : ∀ j, j < hG v → upd (House_phases v) q (I (p : Int)) j = I (((if j = q then p else hF v j : Nat)) : Int) := fun j hjj => by
    by_cases c : j = q
    · rw [if_pos c, c, upd_i]
    · rw [if_neg c, upd_n c]; exact (hw j hjj).2.2.1
  obtain ⟨g', w, Φ', m1, m2, m3, m4, m5, m6, m7, m8, m9⟩ := phases_q hj hls (by omega) (f := upd (House_phases v) q (I (p : Int))) (φ := fun j => if j = q then p else hF v j) hf (fun j hjj => by
    show (if j = q then p else hF v j) < hP v j
    by_cases c : j = q
    · rw [if_pos c, c]; exact hp
    · rw [if_neg c]; exact (hw j hjj).2.2.2)
  have hs' : SI2 Φ' (ls + 1) s := hs.mono (by omega) m3
  obtain ⟨s', k1, k2, k3⟩ := measured_s m4.2.1.1 m4.2.1.2.2.2.2.1 (hs'.ms m4.1 (by omega)) g'
  refine ⟨g', w, y', e', s', Φ', ?_, m2, m3, m4, m5, m7, SI2.of m4.1 k2 k3, r2, r3⟩
  unfold GW_shift
  rw [needGuard_o hv.1.1 hq, bind_s, gd_I (by omega) (by omega) (by omega), I_clamp q (by omega), (hw q hq).1.1, I1, I_sub, show (0 : Int32) = I 0 from rfl, needRange_o (by omega) (by omega) (by omega) (by omega), bind_s, r1, bind_s, nmL_e, m1, bind_s]
  dsimp only
  rw [k1, bind_s, k2.2]
/-- the best phases are adopted -/
theorem adopt_loop_q {y : HistV} {e : Nat → HouseV} {b : BestV} {bt : HouseV} {bs : SightV} {β : Nat → Nat} (hv : HX v) (hb : ∀ q, q < hG v → Best_phases b q = I (β q : Int) ∧ β q < hP v q) : ∀ (q k m : Nat) (f : Nat → Int32), hG v = k + q → q < m → (∀ j, j < k → f j = I (β j : Int)) → (∀ j, k ≤ j → f j = House_phases v j) → ∃ f', (∀ j, j < hG v → f' j = I (β j : Int)) ∧ GW_adopt_20 m (I ((cnt (fun j => decide (¬ hF v j = β j)) k : Nat) : Int)) (I (k : Int)) g (House_set_phases v f) y e b bt bs = GW_adopt_78 (I ((cnt (fun j => decide (¬ hF v j = β j)) (hG v) : Nat) : Int)) g (House_set_phases v f') y e b bt bs := by
  have hw := hv.1.2.2.2.2.1
  have hG4 := hv.1.1.2.2.2.2.2.2.1
  intro q
  induction q with
  | zero =>
    intro k m f hk hm h1 h2
    obtain ⟨m, rfl⟩ : ∃ q, m = q + 1 := ⟨m - 1, by omega⟩
    refine ⟨f, fun j hj => h1 j (by omega), ?_⟩
    rw [GW_adopt_20, Ho_guards_phases, hv.1.1.2.2.2.2.2.1, if_pos (I_le_t (by omega) (by omega) (by omega)), show k = hG v by omega]
  | succ q ih =>
    intro k m f hk hm h1 h2
    obtain ⟨m, rfl⟩ : ∃ q, m = q + 1 := ⟨m - 1, by omega⟩
    obtain ⟨b1, b2⟩ := hb k (by omega)
    have hp := hw.per k (by omega)
    obtain ⟨-, -, g3, g4⟩ := hw k (by omega)
    rw [GW_adopt_20, Ho_guards_phases, hv.1.1.2.2.2.2.2.1, if_neg (I_le_f (by omega) (by omega) (by omega)), I4, if_neg (I_le_f (by omega) (by omega) (by omega)), gd_I (by omega) (by omega) (by omega), I_clamp k (by omega), Ho_phases_phases, h2 k (Nat.le_refl _), b1, g3]
    by_cases c : hF v k = β k
    · obtain ⟨f', f1, f2⟩ := ih (k + 1) m f (by omega) (by omega) (fun j hj => by
        by_cases e : j = k
        · rw [e, h2 k (Nat.le_refl _), g3, c]
        · exact h1 j (by omega)) (fun j hj => h2 j (by omega))
      refine ⟨f', f1, ?_⟩
      rw [cnt] at f2
      rw [decide_eq_false (fun q => q c), bif_f, Nat.add_zero] at f2
      rw [if_pos (by rw [c]), nmL_e, I_succ]
      exact f2
    · obtain ⟨f', f1, f2⟩ := ih (k + 1) m (upd f k (I (β k : Int))) (by omega) (by omega) (fun j hj => by
        by_cases e : j = k
        · rw [e, upd_i]
        · rw [upd_n e]; exact h1 j (by omega)) (fun j hj => by rw [upd_n (by omega)]; exact h2 j (by omega))
      refine ⟨f', f1, ?_⟩
      rw [cnt] at f2
      rw [decide_eq_true c, bif_t] at f2
      rw [if_neg (I_ne (by omega) (by omega) (by omega) (by omega) (by omega)), nmL_e, nmL_e, nmL_e, I_succ, I_succ, sp_sp]
      exact f2
theorem bestEx (hw : WFG v) : ∃ β, BestIn (EV v) (rM v) (hG v) (prd (rM v) (hG v)) β := by
  have hpos : ∀ g, g < hG v → 1 ≤ rM v g := fun g hg => by
    unfold rM
    split
    · exact Nat.le_refl _
    · exact (hw.per g hg).1
  have hprd : ∀ k, k ≤ hG v → 1 ≤ prd (rM v) k := by
    intro k
    induction k with
    | zero => intro _; exact Nat.le_refl _
    | succ k ih => intro hk; rw [prd]; exact Nat.mul_pos (ih (by omega)) (hpos k (by omega))
  have key : ∀ c, 1 ≤ c → c ≤ prd (rM v) (hG v) → ∃ β, BestIn (EV v) (rM v) (hG v) c β := by
    intro c
    induction c with
    | zero => intro h; omega
    | succ c ih =>
      intro _ hc
      obtain ⟨φ, b1, b2⟩ := digits (r := rM v) (hG v) c hpos (by omega)
      by_cases c0 : c = 0
      · subst c0
        exact ⟨φ, best_first EV_congr b1 b2⟩
      · obtain ⟨β, hβ⟩ := ih (by omega) (by omega)
        by_cases hlt : eLt (EV v φ) (EV v β)
        · exact ⟨φ, best_new EV_congr hβ b1 b2 hlt⟩
        · exact ⟨β, best_same EV_congr hβ b1 b2 hlt⟩
  exact key _ (hprd _ (Nat.le_refl _)) (Nat.le_refl _)
theorem adopt_q (hj : JX Φ Ψ ls v) (hls : GW_lastStamp g = I (ls : Int)) (hl : ls ≤ 90000) (hh : HQ y e c U) {b : BestV} (hb : BI2 Ψ ls b) (bt : HouseV) (bs : SightV) : ∃ β g' w y' e' b' bt' bs' Φ', GW_adopt g v y e b bt bs = some (I ((cnt (fun j => decide (¬ hF v j = β j)) (hG v) : Nat) : Int), g', w, y', e', b', bt', bs') ∧ BestIn (EV v) (rM v) (hG v) (prd (rM v) (hG v)) β ∧ GW_lastStamp g' = I ((ls + 1 : Nat) : Int) ∧ (∀ p, p ≤ ls → Φ' p = Φ p) ∧ JX Φ' Ψ (ls + 1) w ∧ FP w v ∧ (∀ j, j < hG v → hF w j = β j) ∧ SW w (HS v β) ∧ WE w v ∧ BI2 Ψ (ls + 1) b' ∧ HQ y' e' (min (c + 1) 10) (psh v U) ∧ Hist_saved y' = Hist_saved y := by
  have hv := hj.2
  have hw := hv.1.2.2.2.2.1
  obtain ⟨b', bt', bs', k1, ⟨β, k2, k3⟩, k4⟩ := best_s (g := g) (t := bt) (s := bs) hb hj.1 (by omega) (bestEx hw)
  obtain ⟨y', e', r1, r2, r3⟩ := record_q hh v
  have hβ : ∀ q, q < hG v → Best_phases b' q = I (β q : Int) ∧ β q < hP v q := fun q hq => ⟨k2.2.2 q hq, boxM_P hw k3.1 q hq⟩
  obtain ⟨f', f1, f2⟩ := adopt_loop_q (g := g) (y := y') (e := e') (b := b') (bt := bt') (bs := bs') hv hβ (hG v) 0 FU (House_phases v) (by omega) (by unfold FU; have := hv.1.1.2.2.2.2.2.2.1; omega) (fun j hj => absurd hj (by omega)) (fun j _ => rfl)
  obtain ⟨g', w, Φ', m1, m2, m3, m4, m5, m6, m7, m8, m9⟩ := phases_q hj hls (by omega) (f := f') (φ := β) f1 (fun q hq => (hβ q hq).2)
  refine ⟨β, g', w, y', e', b', bt', bs', Φ', ?_, k3, m2, m3, m4, m5, m7, m8, m9, k4.mono (by omega) (fun _ _ => rfl), r2, r3⟩
  unfold GW_adopt
  rw [k1, bind_s, r1, bind_s]
  dsimp only
  refine Eq.trans f2 ?_
  unfold GW_adopt_78
  rw [m1, bind_s]
end OPSX
