section DOORS2
/-! what each law of a house stands on -/
section
variable {w v : HouseV}
theorem wfd_c (h1 : House_doors w = House_doors v) (h2 : House_rooms w = House_rooms v) (h3 : House_doorFirst w = House_doorFirst v) (h4 : House_doorSecond w = House_doorSecond v) (h : WFd v) : WFd w := by
  unfold WFd hD hA hB hR at h ⊢
  rw [h1, h2, h3, h4]
  exact h
theorem wfl_c (h1 : House_limits w = House_limits v) (h : WFl v) : WFl w := by
  unfold WFl hL at h ⊢
  rw [h1]
  exact h
theorem wfw_c (h1 : House_rooms w = House_rooms v) (h3 : House_periods w = House_periods v) (h5 : House_walks w = House_walks v) (h6 : House_walked w = House_walked v) {g : Nat} (h : WFw v g) : WFw w g := by
  unfold WFw hP hW hK hR at h ⊢
  rw [h1, h3, h5, h6]
  exact h
theorem wfG_c (h1 : House_rooms w = House_rooms v) (h2 : House_guards w = House_guards v) (h3 : House_periods w = House_periods v) (h4 : House_phases w = House_phases v) (h5 : House_walks w = House_walks v) (h6 : House_walked w = House_walked v) (h : WFG v) : WFG w := by
  intro g hg
  have hg' : g < hG v := by unfold hG at hg ⊢; rw [← h2]; exact hg
  obtain ⟨a, b, c, d⟩ := h g hg'
  refine ⟨wfw_c h1 h3 h5 h6 a, ?_, ?_, ?_⟩
  · unfold hP at b ⊢; rw [h3]; exact b
  · unfold hF at c ⊢; rw [h4]; exact c
  · unfold hF hP at d ⊢; rw [h3, h4]; exact d
theorem wfs_c (h1 : House_minute w = House_minute v) (h2 : House_sightings w = House_sightings v) (h3 : House_runs w = House_runs v) (h4 : House_longestRuns w = House_longestRuns v) (h5 : House_lastSeen w = House_lastSeen v) (h : WFs v) : WFs w := by
  unfold WFs hM at h ⊢
  rw [h1, h2, h3, h4, h5]
  exact h
theorem sw_c (h1 : House_rooms w = House_rooms v) (h2 : House_guards w = House_guards v) (h3 : House_periods w = House_periods v) (h4 : House_phases w = House_phases v) (h5 : House_walks w = House_walks v) : SW w v := by
  refine ⟨by unfold hR; rw [h1], by unfold hG; rw [h2], fun g hg => ⟨by unfold hP; rw [h3], fun t => ?_⟩⟩
  unfold place hW hP hF
  rw [h3, h4, h5]
theorem wfj_c (h1 : House_doors w = House_doors v) (h2 : House_openDoors w = House_openDoors v) (h3 : House_doorFirst w = House_doorFirst v) (h4 : House_doorSecond w = House_doorSecond v) (h5 : House_joined w = House_joined v) (h : WFj v) : WFj w := by
  intro r hr
  have e : jm w r = jm v r := by
    unfold jm hD
    rw [h1]
    refine ors_congr fun d _ => ?_
    unfold dj opn hO hA hB
    rw [h2, h3, h4]
  rw [e, h5]
  exact h r hr
theorem wfn_c (h1 : House_rooms w = House_rooms v) (h2 : House_doors w = House_doors v) (h3 : House_guards w = House_guards v) (h4 : House_minute w = House_minute v) (h5 : House_openDoors w = House_openDoors v) (h : WFn v) : WFn w := by
  unfold WFn hR hD hG hM hO at h ⊢
  rw [h1, h2, h3, h4, h5]
  exact h
end
/-! the open doors of the house, of a room -/
theorem openAll_s {v : HouseV} (hn : WFn v) : House_countOpenDoors v = some (I ((cnt (opn v) (hD v) : Nat) : Int)) := by
  obtain ⟨-, -, -, -, d20, -, -, -, -, e, b⟩ := hn
  unfold House_countOpenDoors
  rw [e, bitCount_n b (by omega), bind_s]
  rfl
/-- one of the doors of r -/
def atR (v : HouseV) (r d : Nat) : Bool := opn v d && (decide (hA v d = r) || decide (hB v d = r))
section
variable {v : HouseV}
/-- of all rooms, where x1 = -1; else of the room -/
def atX (v : HouseV) (x : Int) (d : Nat) : Bool := opn v d && (decide (x = -1) || (decide ((hA v d : Int) = x) || decide ((hB v d : Int) = x)))
theorem atX_all (v : HouseV) : atX v (-1) = opn v := funext fun d => by
  unfold atX
  rw [decide_eq_true rfl, Bool.true_or, Bool.and_true]
theorem atX_room (v : HouseV) (r : Nat) : atX v (r : Int) = atR v r := funext fun d => by
  unfold atX atR
  rw [decide_eq_false (show ¬ (r : Int) = -1 by omega), Bool.false_or, show decide ((hA v d : Int) = (r : Int)) = decide (hA v d = r) from decide_eq_decide.mpr ⟨fun h => by omega, fun h => by omega⟩, show decide ((hB v d : Int) = (r : Int)) = decide (hB v d = r) from decide_eq_decide.mpr ⟨fun h => by omega, fun h => by omega⟩]
end
/-! walks through between two rooms -/
def edge (a b x y : Nat) : Bool := (decide (x = a) && decide (y = b)) || (decide (x = b) && decide (y = a))
/-- the step s of the guard's walk, from the one before; the step k, to the next one -/
def eC (v : HouseV) (g a b s : Nat) : Bool := edge a b (hW v g (if s = 0 then hP v g - 1 else s - 1)) (hW v g s)
def eM (v : HouseV) (g a b k : Nat) : Bool := edge a b (hW v g k) (hW v g ((k + 1) % hP v g))
def thr (v : HouseV) (a b g : Nat) : Bool := decide (0 < cnt (eC v g a b) (hP v g))
theorem thr_m {v : HouseV} {a b g : Nat} (hp : 1 ≤ hP v g) : thr v a b g = decide (0 < cnt (eM v g a b) (hP v g)) := by
  unfold thr
  apply decide_eq_decide.mpr
  rw [cnt_pos, cnt_pos]
  constructor
  · rintro ⟨s, hs, h⟩
    by_cases c : s = 0
    · subst c
      refine ⟨hP v g - 1, by omega, ?_⟩
      unfold eC at h
      unfold eM
      rw [if_pos rfl] at h
      rw [show hP v g - 1 + 1 = hP v g by omega, Nat.mod_self]
      exact h
    · refine ⟨s - 1, by omega, ?_⟩
      unfold eC at h
      unfold eM
      rw [if_neg c] at h
      rw [show s - 1 + 1 = s by omega, Nat.mod_eq_of_lt hs]
      exact h
  · rintro ⟨k, hk, h⟩
    unfold eM at h
    by_cases c : k + 1 = hP v g
    · refine ⟨0, by omega, ?_⟩
      unfold eC
      rw [c, Nat.mod_self] at h
      rw [if_pos rfl, show hP v g - 1 = k by omega]
      exact h
    · refine ⟨k + 1, by omega, ?_⟩
      unfold eC
      rw [Nat.mod_eq_of_lt (by omega)] at h
      rw [if_neg (by omega), Nat.add_sub_cancel]
      exact h
theorem cnt_first {p : Nat → Bool} {k n : Nat} (h : p k = true) (hk : k < n) : decide (0 < cnt p n) = true := decide_eq_true (cnt_pos.mpr ⟨k, hk, h⟩)
theorem thr_loop {v : HouseV} (hn : WFn v) {g a b : Nat} (hg : g < hG v) (hw : WFg v g) (ha : a < 12) (hb : b < 12) : ∀ (q k n : Nat), hP v g = k + q → q < n → cnt (eC v g a b) k = 0 → House_goesThrough_10 (I (g : Int)) (I (a : Int)) (I (b : Int)) v n (I (hW v g (if k = 0 then hP v g - 1 else k - 1) : Int)) (I (k : Int)) = some (thr v a b g) := by
  have hG4 : hG v ≤ 4 := hn.2.2.2.2.2.2.1
  have hR12 : hR v ≤ 12 := hn.2.2.1
  have hP10 : hP v g ≤ 10 := hw.1.2.1
  have hP1 := hw.2.1
  intro q
  induction q with
  | zero =>
    intro k n hk hm h0
    obtain ⟨n, rfl⟩ : ∃ q, n = q + 1 := ⟨n - 1, by omega⟩
    have hf : thr v a b g = false := by
      unfold thr
      rw [show hP v g = k by omega, h0]
      rfl
    rw [House_goesThrough_10, hf]
    by_cases c : k = 10
    · rw [I10, if_pos (I_le_t (by omega) (by omega) (by omega))]
    · rw [I10, if_neg (I_le_f (by omega) (by omega) (by omega)), walkRoom_s hn hg hw.1 (by omega), if_neg (by omega), bind_s, if_pos rfl]
  | succ q ih =>
    intro k n hk hm h0
    obtain ⟨n, rfl⟩ : ∃ q, n = q + 1 := ⟨n - 1, by omega⟩
    have l1 := (hw.1.2.2.1 k (by omega)).2
    have l2 : hW v g (if k = 0 then hP v g - 1 else k - 1) < hR v := (hw.1.2.2.1 _ (by split <;> omega)).2
    have hh := ih (k + 1) n (by omega) (by omega)
    rw [if_neg (by omega : ¬ k + 1 = 0), Nat.add_sub_cancel] at hh
    rw [House_goesThrough_10, I10, if_neg (I_le_f (by omega) (by omega) (by omega)), walkRoom_s hn hg hw.1 (by omega), if_pos (by omega), bind_s, Im1, if_neg (I_ne (by omega) (by omega) (by omega) (by omega) (by omega)), bind_s]
    have hec : eC v g a b k = edge a b (hW v g (if k = 0 then hP v g - 1 else k - 1)) (hW v g k) := rfl
    generalize hW v g (if k = 0 then hP v g - 1 else k - 1) = x at hec l2 ⊢
    have ne : ∀ y z : Nat, y < 12 → z < 12 → ¬ y = z → ¬ I (y : Int) = I (z : Int) := fun y z hy hz h => I_ne (by omega) (by omega) (by omega) (by omega) (by omega)
    have no : edge a b x (hW v g k) = false → House_goesThrough_10 (I (g : Int)) (I (a : Int)) (I (b : Int)) v n (I (hW v g k : Int)) (I ((k + 1 : Nat) : Int)) = some (thr v a b g) := fun h => hh (by
      show cnt _ k + (bif eC v g a b k then 1 else 0) = 0
      rw [hec, h, h0]; rfl)
    have yes : edge a b x (hW v g k) = true → thr v a b g = true := fun h => cnt_first (k := k) (by rw [hec]; exact h) (by omega)
    have k49 : (¬ (x = a ∧ hW v g k = b)) → House_goesThrough_49 (I (g : Int)) (I (a : Int)) (I (b : Int)) v (fun (x4 : Int32) (x5 : Int32) => House_goesThrough_10 (I (g : Int)) (I (a : Int)) (I (b : Int)) v n x4 x5) (I (x : Int)) (I (k : Int)) (I (hW v g k : Int)) = some (thr v a b g) := by
      intro hno
      unfold House_goesThrough_49
      by_cases c1 : x = b
      · rw [if_pos (by rw [c1])]
        by_cases c2 : hW v g k = a
        · rw [if_pos (by rw [c2]), yes (by unfold edge; rw [decide_eq_true c1, decide_eq_true c2, Bool.and_true, Bool.or_true])]
        · rw [if_neg (ne _ _ (by omega) (by omega) c2), nmL_e, I_succ]
          refine no ?_
          unfold edge
          rw [decide_eq_false c2, Bool.and_false, Bool.or_false]
          rw [Bool.and_eq_false_iff, decide_eq_false_iff_not, decide_eq_false_iff_not]
          exact Decidable.not_and_iff_or_not.mp hno
      · rw [if_neg (ne _ _ (by omega) (by omega) c1), nmL_e, I_succ]
        refine no ?_
        unfold edge
        rw [decide_eq_false c1, Bool.false_and, Bool.or_false]
        rw [Bool.and_eq_false_iff, decide_eq_false_iff_not, decide_eq_false_iff_not]
        exact Decidable.not_and_iff_or_not.mp hno
    by_cases c1 : x = a
    · rw [if_pos (by rw [c1])]
      by_cases c2 : hW v g k = b
      · rw [if_pos (by rw [c2]), yes (by unfold edge; rw [decide_eq_true c1, decide_eq_true c2]; rfl)]
      · rw [if_neg (ne _ _ (by omega) (by omega) c2)]
        exact k49 fun h => c2 h.2
    · rw [if_neg (ne _ _ (by omega) (by omega) c1)]
      exact k49 fun h => c1 h.1
theorem thr_s {v : HouseV} (hn : WFn v) {g a b : Nat} (hg : g < hG v) (hw : WFg v g) (ha : a < 12) (hb : b < 12) : House_goesThrough (I (g : Int)) (I (a : Int)) (I (b : Int)) v = some (thr v a b g) := by
  have hP1 := hw.2.1
  have hP10 : hP v g ≤ 10 := hw.1.2.1
  unfold House_goesThrough
  rw [lastRoom_s hn hg hw.1, bind_s, if_neg (by omega)]
  exact thr_loop hn hg hw ha hb (hP v g) 0 FU (by omega) (by unfold FU; omega) rfl
theorem through_loop {v : HouseV} (hn : WFn v) (hd : WFd v) (hw : WFG v) {d : Nat} (h : d < hD v) : ∀ (q k n : Nat), hG v = k + q → q < n → House_countGuardsThrough_14 (I (d : Int)) v n (I ((cnt (thr v (hA v d) (hB v d)) k : Nat) : Int)) (I (k : Int)) = some (I ((cnt (thr v (hA v d) (hB v d)) (hG v) : Nat) : Int)) := by
  have hG4 : hG v ≤ 4 := hn.2.2.2.2.2.2.1
  have hR12 : hR v ≤ 12 := hn.2.2.1
  have hD20 : hD v ≤ 20 := hn.2.2.2.2.1
  have eG : House_guards v = I (hG v) := hn.2.2.2.2.2.1
  obtain ⟨e1, l1, e2, l2, ne⟩ := hd d h
  intro q
  induction q with
  | zero =>
    intro k n hk hm
    obtain ⟨n, rfl⟩ : ∃ q, n = q + 1 := ⟨n - 1, by omega⟩
    rw [House_countGuardsThrough_14, eG, if_pos (I_le_t (by omega) (by omega) (by omega)), show k = hG v by omega]
  | succ q ih =>
    intro k n hk hm
    obtain ⟨n, rfl⟩ : ∃ q, n = q + 1 := ⟨n - 1, by omega⟩
    have hh := ih (k + 1) n (by omega) (by omega)
    rw [cnt] at hh
    rw [House_countGuardsThrough_14, eG, if_neg (I_le_f (by omega) (by omega) (by omega)), gd_I (by omega) (by omega) (by omega), I_clamp d (by omega), e1, e2, thr_s hn (by omega) (hw k (by omega)) (by omega) (by omega), bind_s]
    cases ht : thr v (hA v d) (hB v d) k
    · rw [ht, bif_f, Nat.add_zero] at hh
      rw [bif_f, nmL_e, I_succ]
      exact hh
    · rw [ht, bif_t] at hh
      rw [bif_t, nmL_e, nmL_e, I_succ, I_succ]
      exact hh
theorem through_s {v : HouseV} (hn : WFn v) (hd : WFd v) (hw : WFG v) {d : Nat} (h : d < hD v) : House_countGuardsThrough (I (d : Int)) v = some (I ((cnt (thr v (hA v d) (hB v d)) (hG v) : Nat) : Int)) := by
  have hG4 : hG v ≤ 4 := hn.2.2.2.2.2.2.1
  have hD20 : hD v ≤ 20 := hn.2.2.2.2.1
  unfold House_countGuardsThrough
  rw [hasDoor_s hn (by omega) (by omega), decide_eq_true (by omega), bind_s, bif_t]
  exact through_loop hn hd hw h (hG v) 0 FU (by omega) (by unfold FU; omega)
section
variable {v : HouseV}
theorem cnt_b2i (p : Nat → Bool) (k : Nat) : b2i (decide (0 < cnt p (k + 1))) = if p k = true then 1 else b2i (decide (0 < cnt p k)) := by
  rw [show cnt p (k + 1) = cnt p k + (bif p k then 1 else 0) from rfl]
  cases p k
  · rw [bif_f, Nat.add_zero, if_neg (by decide)]
  · rw [bif_t, if_pos rfl, decide_eq_true (by omega)]; rfl
theorem b2i_or1 (b : Bool) : b2i b ||| 1 = 1 := by cases b <;> decide
theorem b2i_or0 (b : Bool) : b2i b ||| 0 = b2i b := by cases b <;> decide
theorem asB_b {β : Type} (b : Bool) (k : Bool → Option β) : asB (b2i b) k = k b := by
  cases b
  · exact asB_0 k
  · exact asB_1 k
end
end DOORS2

