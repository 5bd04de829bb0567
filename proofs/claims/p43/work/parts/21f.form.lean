section FORM
/-- the class with its formatted bytes -/
def GF (g : GWV) (F : Nat → Int32) (L : Int32) : GWV := GW_set_formattedLength (GW_set_formatted g F) L
def AG (F F' : Nat → Int32) (L : Nat) : Prop := ∀ i, i < L → F i = F' i
theorem AG.step {F F' : Nat → Int32} {L : Nat} (h : AG F F' L) (x : Int32) : AG (upd F L x) (upd F' L x) (L + 1) := by
  intro i hi
  by_cases c : i = L
  · subst c; rw [upd_i, upd_i]
  · rw [upd_n c, upd_n c]; exact h i (by omega)
theorem GF_GF (g : GWV) (F F' : Nat → Int32) (L L' : Int32) : GF (GF g F L) F' L' = GF g F' L' := rfl
/-- the sightings s are of the house v, if their stamp says so -/
def MS (s : SightV) (v : HouseV) : Prop := Sight_stamp s = House_phasesStamp v → SOK s v
def MSn (s0 s : SightV) (v : HouseV) : Prop := s = s0 ∨ (SOK s v ∧ Sight_stamp s = House_phasesStamp v)
theorem measured_s {s : SightV} {v : HouseV} (hn : WFn v) (hw : WFG v) (h : MS s v) (g : GWV) : ∃ s', GW_measured g v s = some s' ∧ SOK s' v ∧ Sight_stamp s' = House_phasesStamp v := by
  unfold GW_measured
  by_cases c : Sight_stamp s = House_phasesStamp v
  · exact ⟨s, by rw [if_pos c], h c, c⟩
  · obtain ⟨s', a, b, d⟩ := measure_s hn hw s
    exact ⟨s', by rw [if_neg c, a, bind_s], b, d⟩
theorem MSn.ms {s0 s : SightV} {v : HouseV} (h : MSn s0 s v) (h0 : MS s0 v) : MS s v := by
  cases h with
  | inl h => rw [h]; exact h0
  | inr h => exact fun _ => h.1
variable {v : HouseV}
theorem cnt_lt_succ {f : Nat → Nat} (x n : Nat) : cnt (fun g => decide (f g < x + 1)) n = cnt (fun g => decide (f g < x)) n + cnt (fun g => decide (f g = x)) n := by
  induction n with
  | zero => rfl
  | succ n ih =>
    rw [show cnt (fun g => decide (f g < x + 1)) (n + 1) = cnt (fun g => decide (f g < x + 1)) n + (bif decide (f n < x + 1) then 1 else 0) from rfl, show cnt (fun g => decide (f g < x)) (n + 1) = cnt (fun g => decide (f g < x)) n + (bif decide (f n < x) then 1 else 0) from rfl, show cnt (fun g => decide (f g = x)) (n + 1) = cnt (fun g => decide (f g = x)) n + (bif decide (f n = x) then 1 else 0) from rfl, ih]
    by_cases c1 : f n < x
    · rw [decide_eq_true (show f n < x + 1 by omega), decide_eq_true c1, decide_eq_false (show ¬ f n = x by omega), bif_t, bif_f]; omega
    · by_cases c2 : f n = x
      · rw [decide_eq_true (show f n < x + 1 by omega), decide_eq_false c1, decide_eq_true c2, bif_t, bif_f]; omega
      · rw [decide_eq_false (show ¬ f n < x + 1 by omega), decide_eq_false c1, decide_eq_false c2, bif_f]; omega
end FORM

