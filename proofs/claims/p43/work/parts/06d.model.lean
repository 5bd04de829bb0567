section MODEL
/-- a row of the model holds the house v -/
def RelM (w : Nat → Int32) (v : HouseV) : Prop :=
  w 0 = House_rooms v ∧ w 1 = House_doors v ∧ w 2 = House_guards v ∧ w 3 = House_minute v ∧
  (∀ r, r < 12 → w (4 + 5 * r) = House_limits v r ∧ w (5 + 5 * r) = House_sightings v r ∧ w (6 + 5 * r) = House_lastSeen v r ∧ w (7 + 5 * r) = House_runs v r ∧ w (8 + 5 * r) = House_longestRuns v r) ∧
  (∀ d, d < hD v → w (64 + 3 * d) = House_doorFirst v d ∧ w (65 + 3 * d) = House_doorSecond v d ∧ w (66 + 3 * d) = I ((bif (hO v).testBit d then 1 else 0 : Nat) : Int)) ∧
  (∀ g, g < hG v → w (124 + 12 * g) = House_periods v g ∧ w (125 + 12 * g) = House_phases v g ∧ ∀ s, s < hP v g → w (126 + 12 * g + s) = House_walks v (10 * g + s))
section
variable {v : HouseV}
def placeP (v : HouseV) (ph : Nat → Nat) (g t : Nat) : Nat := hW v g ((t % hP v g + ph g) % hP v g)
theorem placeP_lt {g : Nat} (hg : WFg v g) (ph : Nat → Nat) (t : Nat) : placeP v ph g t < hR v := (hg.1.2.2.1 _ (Nat.mod_lt _ hg.2.1)).2
def seenP (v : HouseV) (ph : Nat → Nat) (t : Nat) : Nat := ors (fun g => 1 <<< placeP v ph g t) (hG v)
end
end MODEL

