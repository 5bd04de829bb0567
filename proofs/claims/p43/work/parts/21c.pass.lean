section PASS
/-- the two houses differ in what has passed in the rooms alone -/
def SGm (w v : HouseV) : Prop := House_rooms w = House_rooms v ∧ House_doors w = House_doors v ∧ House_guards w = House_guards v ∧ House_openDoors w = House_openDoors v ∧ House_walksStamp w = House_walksStamp v ∧ House_phasesStamp w = House_phasesStamp v ∧ House_doorFirst w = House_doorFirst v ∧ House_doorSecond w = House_doorSecond v ∧ House_joined w = House_joined v ∧ House_limits w = House_limits v ∧ House_periods w = House_periods v ∧ House_phases w = House_phases v ∧ House_walks w = House_walks v ∧ House_walked w = House_walked v
theorem SGm.refl (v : HouseV) : SGm v v := ⟨rfl, rfl, rfl, rfl, rfl, rfl, rfl, rfl, rfl, rfl, rfl, rfl, rfl, rfl⟩
theorem sgm_trans {u w v : HouseV} (h : SGm u w) (h' : SGm w v) : SGm u v := by
  obtain ⟨a1, a2, a3, a4, a5, a6, a7, a8, a9, a10, a11, a12, a13, a14⟩ := h
  obtain ⟨b1, b2, b3, b4, b5, b6, b7, b8, b9, b10, b11, b12, b13, b14⟩ := h'
  exact ⟨a1.trans b1, a2.trans b2, a3.trans b3, a4.trans b4, a5.trans b5, a6.trans b6, a7.trans b7, a8.trans b8, a9.trans b9, a10.trans b10, a11.trans b11, a12.trans b12, a13.trans b13, a14.trans b14⟩
theorem sgm_sw {w v : HouseV} (h : SGm w v) : SW w v := sw_c h.1 h.2.2.1 h.2.2.2.2.2.2.2.2.2.2.1 h.2.2.2.2.2.2.2.2.2.2.2.1 h.2.2.2.2.2.2.2.2.2.2.2.2.1
def hS (v : HouseV) (r : Nat) : Int := ((House_sightings v r).toNatClampNeg : Int)
def sumS (v : HouseV) : Int := sumTo (hS v) (hR v)
/-- the bounds of what has passed, with b in the place of the minute -/
def WFb (v : HouseV) (B : Nat) (r : Nat) : Prop := ∃ a b c : Nat, ∃ d : Int, House_sightings v r = I (a : Int) ∧ a ≤ B ∧ House_runs v r = I (b : Int) ∧ b ≤ B ∧ House_longestRuns v r = I (c : Int) ∧ c ≤ B ∧ House_lastSeen v r = I d ∧ -1 ≤ d ∧ d < B
theorem wfb_mono {v : HouseV} {B C r : Nat} (h : WFb v B r) (hc : B ≤ C) : WFb v C r := by
  obtain ⟨a, b, c, d, h1, h2, h3, h4, h5, h6, h7, h8, h9⟩ := h
  exact ⟨a, b, c, d, h1, by omega, h3, by omega, h5, by omega, h7, h8, by omega⟩
/-- one room's four numbers -/
def RM (w v : HouseV) (r : Nat) (s l u g : Int32) : Prop := ∀ q, House_sightings w q = (if q = r then s else House_sightings v q) ∧ House_lastSeen w q = (if q = r then l else House_lastSeen v q) ∧ House_runs w q = (if q = r then u else House_runs v q) ∧ House_longestRuns w q = (if q = r then g else House_longestRuns v q)
theorem rel_room {m : Nat → Int32} {w v : HouseV} (hn : WFn v) (hr : RelM m v) (hs : SGm w v) (hM : House_minute w = House_minute v) {r : Nat} (hr12 : r < 12) {s l u g : Int32} (h : RM w v r s l u g) : RelM (upd (upd (upd (upd m (7 + 5 * r) u) (8 + 5 * r) g) (5 + 5 * r) s) (6 + 5 * r) l) w := by
  have hD20 : hD v ≤ 20 := hn.2.2.2.2.1
  have hG4 : hG v ≤ 4 := hn.2.2.2.2.2.2.1
  obtain ⟨f1, f2, f3, f5, f17, f18, f6, f7, f19, f8, f9, f10, f11, f12⟩ := hs
  have gO : hO w = hO v := by unfold hO; rw [f5]
  have gD : hD w = hD v := by unfold hD; rw [f2]
  have gG : hG w = hG v := by unfold hG; rw [f3]
  have gP : hP w = hP v := by unfold hP; rw [f9]
  obtain ⟨a1, a2, a3, a4, a5, a6, a7⟩ := hr
  have key : ∀ i, (∀ j, j < 4 → i ≠ 5 + 5 * r + j) → upd (upd (upd (upd m (7 + 5 * r) u) (8 + 5 * r) g) (5 + 5 * r) s) (6 + 5 * r) l i = m i := fun i hi => by
    have i0 := hi 0 (by omega)
    have i1 := hi 1 (by omega)
    have i2 := hi 2 (by omega)
    have i3 := hi 3 (by omega)
    rw [upd_n (by omega), upd_n (by omega), upd_n (by omega), upd_n (by omega)]
  unfold RelM
  rw [gO, gD, gG, gP, f1, f2, f3, hM, f6, f7, f8, f9, f10, f11, key 0 (by omega), key 1 (by omega), key 2 (by omega), key 3 (by omega)]
  refine ⟨a1, a2, a3, a4, fun q hq => ?_, fun q hq => ?_, fun q hq => ?_⟩
  · obtain ⟨h1, h2, h3, h4⟩ := h q
    obtain ⟨b1, b2, b3, b4, b5⟩ := a5 q hq
    rw [h1, h2, h3, h4, key (4 + 5 * q) (by omega)]
    by_cases c : q = r
    · subst c
      rw [if_pos rfl, if_pos rfl, if_pos rfl, if_pos rfl]
      refine ⟨b1, ?_, upd_i, ?_, ?_⟩
      · rw [upd_n (by omega), upd_i]
      · rw [upd_n (by omega), upd_n (by omega), upd_n (by omega), upd_i]
      · rw [upd_n (by omega), upd_n (by omega), upd_i]
    · rw [if_neg c, if_neg c, if_neg c, if_neg c, key (5 + 5 * q) (by omega), key (6 + 5 * q) (by omega), key (7 + 5 * q) (by omega), key (8 + 5 * q) (by omega)]
      exact ⟨b1, b2, b3, b4, b5⟩
  · rw [key (64 + 3 * q) (by omega), key (65 + 3 * q) (by omega), key (66 + 3 * q) (by omega)]
    exact a6 q hq
  · obtain ⟨b1, b2, b3⟩ := a7 q hq
    rw [key (124 + 12 * q) (by omega), key (125 + 12 * q) (by omega)]
    exact ⟨b1, b2, fun s hs => by rw [key (126 + 12 * q + s) (by omega)]; exact b3 s hs⟩
end PASS

