section DOORS3
/-! one door alone between two rooms -/
theorem cnt_one_only {p : Nat → Bool} {x n : Nat} (h : ∀ d, d < n → d ≠ x → p d = false) : cnt p n ≤ 1 := by
  have h1 : ∀ k, k ≤ n → cnt p k ≤ (if x < k then 1 else 0) := by
    intro k
    induction k with
    | zero => intro _; exact Nat.zero_le _
    | succ k ih =>
      intro hk
      have i := ih (by omega)
      rw [show cnt p (k + 1) = cnt p k + (bif p k then 1 else 0) from rfl]
      by_cases c : k = x
      · subst c
        rw [if_neg (by omega)] at i
        rw [if_pos (by omega)]
        cases p k
        · rw [bif_f]; omega
        · rw [bif_t]; omega
      · rw [h k (by omega) c, bif_f]
        split at i
        · rw [if_pos (by omega)]; omega
        · omega
  have := h1 n (Nat.le_refl n)
  split at this <;> omega
theorem cnt_two {p : Nat → Bool} {x y n : Nat} (hx : x < n) (hy : y < n) (hxy : x ≠ y) (h1 : p x = true) (h2 : p y = true) : 2 ≤ cnt p n := by
  have h : 0 < cnt (fun d => p d && !decide (d = y)) n := cnt_pos.mpr ⟨x, hx, by
    show (p x && !decide (x = y)) = true
    rw [h1, decide_eq_false hxy]; rfl⟩
  have := cnt_more (p := fun d => p d && !decide (d = y)) (q := p) (i := y) (n := n) (fun i hi => (Bool.and_eq_true_iff.mp hi).1) hy (by
    show (p y && !decide (y = y)) = false
    rw [decide_eq_true rfl, Bool.not_true, Bool.and_false]) h2
  omega
/-- an open door between the rooms of the door d -/
def obt (v : HouseV) (d e : Nat) : Bool := opn v e && btw v (hA v d) (hB v d) e
theorem other_loop {v : HouseV} (hn : WFn v) (hd : WFd v) {d : Nat} (h : d < hD v) : ∀ (q k n : Nat), hD v = k + q → q < n → (∀ e, e < k → e ≠ d → obt v d e = false) → ∃ b, House_hasOtherOpenDoor_2 (I (d : Int)) v n (I (k : Int)) = some b ∧ (b = true ↔ ∃ e, e < hD v ∧ e ≠ d ∧ obt v d e = true) := by
  have hR12 : hR v ≤ 12 := hn.2.2.1
  have hD20 : hD v ≤ 20 := hn.2.2.2.2.1
  have eD : House_doors v = I (hD v) := hn.2.2.2.1
  obtain ⟨d1, d2, d3, d4, d5⟩ := hd d h
  intro q
  induction q with
  | zero =>
    intro k n hk hm h1
    obtain ⟨n, rfl⟩ : ∃ q, n = q + 1 := ⟨n - 1, by omega⟩
    rw [House_hasOtherOpenDoor_2, eD, if_pos (I_le_t (by omega) (by omega) (by omega))]
    refine ⟨false, rfl, fun h => (by cases h), fun ⟨e, e1, e2, e3⟩ => ?_⟩
    rw [h1 e (by omega) e2] at e3
    cases e3
  | succ q ih =>
    intro k n hk hm h1
    obtain ⟨n, rfl⟩ : ∃ q, n = q + 1 := ⟨n - 1, by omega⟩
    obtain ⟨e1, l1, e2, l2, ne⟩ := hd k (by omega)
    rw [House_hasOtherOpenDoor_2, eD, if_neg (I_le_f (by omega) (by omega) (by omega)), I20, if_neg (I_le_f (by omega) (by omega) (by omega))]
    by_cases c : k = d
    · rw [if_pos (by rw [c]), nmL_e, I_succ]
      refine ih (k + 1) n (by omega) (by omega) (fun e he hne => ?_)
      exact h1 e (by omega) hne
    · rw [if_neg (I_ne (by omega) (by omega) (by omega) (by omega) (by omega)), isOpen_s hn (by omega), bind_s, show (hO v).testBit k = opn v k from rfl]
      have go : obt v d k = false → ∃ b, House_hasOtherOpenDoor_2 (I (d : Int)) v n (I ((k + 1 : Nat) : Int)) = some b ∧ (b = true ↔ ∃ e, e < hD v ∧ e ≠ d ∧ obt v d e = true) := fun ho => ih (k + 1) n (by omega) (by omega) (fun e he hne => by
        by_cases hek : e = k
        · rw [hek]; exact ho
        · exact h1 e (by omega) hne)
      cases ho : opn v k
      · rw [bif_f, nmL_e, I_succ]
        exact go (by unfold obt; rw [ho]; rfl)
      · have ne2 : ∀ y z : Nat, y < 12 → z < 12 → ¬ y = z → ¬ I (y : Int) = I (z : Int) := fun y z hy hz h => I_ne (by omega) (by omega) (by omega) (by omega) (by omega)
        have k46 : House_isBetweenSameRooms_46 (I (k : Int)) (I (d : Int)) v = some (decide (hA v k = hB v d) && decide (hB v k = hA v d)) := by
          unfold House_isBetweenSameRooms_46
          rw [gd_I (by omega) (by omega) (by omega), gd_I (by omega) (by omega) (by omega), I_clamp k (by omega), I_clamp d (by omega), e1, e2, d1, d3]
          by_cases c1 : hA v k = hB v d
          · rw [if_pos (by rw [c1]), decide_eq_true c1]
            by_cases c2 : hB v k = hA v d
            · rw [if_pos (by rw [c2]), decide_eq_true c2]; rfl
            · rw [if_neg (ne2 _ _ (by omega) (by omega) c2), decide_eq_false c2]; rfl
          · rw [if_neg (ne2 _ _ (by omega) (by omega) c1), decide_eq_false c1]; rfl
        have ksm : House_isBetweenSameRooms (I (k : Int)) (I (d : Int)) v = some (btw v (hA v d) (hB v d) k) := by
          unfold House_isBetweenSameRooms btw
          rw [hasDoor_s hn (by omega) (by omega), decide_eq_true (by omega), bind_s, bif_t, hasDoor_s hn (by omega) (by omega), decide_eq_true (by omega), bind_s, bif_t, gd_I (by omega) (by omega) (by omega), gd_I (by omega) (by omega) (by omega), I_clamp k (by omega), I_clamp d (by omega), e1, e2, d1, d3]
          by_cases c1 : hA v k = hA v d
          · rw [if_pos (by rw [c1]), decide_eq_true c1]
            by_cases c2 : hB v k = hB v d
            · rw [if_pos (by rw [c2]), decide_eq_true c2]; rfl
            · rw [if_neg (ne2 _ _ (by omega) (by omega) c2), decide_eq_false c2, k46]; rfl
          · rw [if_neg (ne2 _ _ (by omega) (by omega) c1), decide_eq_false c1, k46]; rfl
        rw [bif_t, ksm, bind_s]
        cases hb : btw v (hA v d) (hB v d) k
        · rw [bif_f, nmL_e, I_succ]
          exact go (by unfold obt; rw [hb, Bool.and_false])
        · rw [bif_t]
          exact ⟨true, rfl, fun _ => ⟨k, by omega, c, by unfold obt; rw [ho, hb]; rfl⟩, fun _ => rfl⟩
theorem other_s {v : HouseV} (hn : WFn v) (hd : WFd v) {d : Nat} (h : d < hD v) (ho : opn v d = true) : House_hasOtherOpenDoor (I (d : Int)) v = some (decide (¬ cnt (obt v d) (hD v) = 1)) := by
  have hD20 : hD v ≤ 20 := hn.2.2.2.2.1
  unfold House_hasOtherOpenDoor
  obtain ⟨b, e, hb⟩ := other_loop hn hd h (hD v) 0 FU (by omega) (by unfold FU; omega) (fun e he => absurd he (by omega))
  rw [I_zero, e]
  congr 1
  have hself : obt v d d = true := by
    unfold obt btw
    rw [ho, decide_eq_true rfl, decide_eq_true rfl]; rfl
  rw [Bool.eq_iff_iff, decide_eq_true_iff, hb]
  constructor
  · rintro ⟨x, x1, x2, x3⟩
    have := cnt_two x1 h x2 x3 hself
    omega
  · intro hc
    apply Classical.byContradiction
    intro hno
    have h1 : cnt (obt v d) (hD v) ≤ 1 := cnt_one_only (x := d) fun x x1 x2 => by
      cases hx : obt v d x
      · rfl
      · exact absurd ⟨x, x1, x2, hx⟩ hno
    have h2 : 0 < cnt (obt v d) (hD v) := cnt_pos.mpr ⟨d, h, hself⟩
    omega
/-! how many guards have a room in their walks -/
def gwalk (v : HouseV) (r g : Nat) : Bool := (hK v g).testBit r
theorem gwalk_c {v : HouseV} {r g : Nat} (hw : WFw v g) : gwalk v r g = decide (0 < cnt (fun s => decide (hW v g s = r)) (hP v g)) := by
  unfold gwalk
  rw [hw.2.2.2.2, Bool.eq_iff_iff, ors_bit, decide_eq_true_iff, cnt_pos]
  constructor
  · rintro ⟨s, hs, h⟩
    rw [tb_one] at h
    exact ⟨s, hs, h⟩
  · rintro ⟨s, hs, h⟩
    exact ⟨s, hs, by rw [tb_one]; exact h⟩
section
variable {v : HouseV}
theorem walked_s (hn : WFn v) {g : Nat} (hw : WFw v g) : ∃ n : Nat, J_bitCount (House_walked v g) = some (I (n : Int)) := by
  have hR12 : hR v ≤ 12 := hn.2.2.1
  have hl : hK v g < 2 ^ hR v := by rw [hw.2.2.2.2]; exact ors_lt fun s hs => bit_lt (hw.2.2.1 s hs).2
  rw [hw.2.2.2.1, bitCount_n hl (by omega)]
  exact ⟨_, rfl⟩
end
/-! a door opened or closed -/
theorem setDoor {v : HouseV} (hv : HOK v) {m : Nat → Int32} (hr : RelM m v) {d : Nat} (h : d < hD v) (b : Bool) : ∃ v', House_setOpen (I (d : Int)) b v = some v' ∧ HOK v' ∧ RelM (upd m (66 + 3 * d) (I ((bif b then 1 else 0 : Nat) : Int))) v' ∧ SW v' v ∧ House_walksStamp v' = House_walksStamp v ∧ House_phasesStamp v' = House_phasesStamp v ∧ House_walks v' = House_walks v := by
  obtain ⟨hn, hd, hj, hl, hw, hs⟩ := hv
  have hD20 : hD v ≤ 20 := hn.2.2.2.2.1
  have hOl : hO v < 2 ^ hD v := hn.2.2.2.2.2.2.2.2.2.2
  obtain ⟨j', e, hj'⟩ := setOpen_s hn hd h b
  have hob : (bif b then hO v ||| 1 <<< d else sdf (hO v) (1 <<< d)) < 2 ^ hD v := by
    cases b
    · exact sdf_lt hOl
    · exact or_lt hOl (bit_lt h)
  have hbit : ∀ q, (bif b then hO v ||| 1 <<< d else sdf (hO v) (1 <<< d)).testBit q = if q = d then b else opn v q := by
    intro q
    have ht : (1 <<< d).testBit q = decide (d = q) := tb_one d q
    cases b
    · rw [bif_f, sdf_bit, ht]
      by_cases c : q = d
      · rw [if_pos c, decide_eq_true c.symm, Bool.not_true, Bool.and_false]
      · rw [if_neg c, decide_eq_false (fun h => c h.symm), Bool.not_false, Bool.and_true]; rfl
    · rw [bif_t, Nat.testBit_or, ht]
      by_cases c : q = d
      · rw [if_pos c, decide_eq_true c.symm, Bool.or_true]
      · rw [if_neg c, decide_eq_false (fun h => c h.symm), Bool.or_false]; rfl
  generalize (bif b then hO v ||| 1 <<< d else sdf (hO v) (1 <<< d)) = o at e hj' hob hbit
  have hpo : o < 2147483648 := Nat.lt_of_lt_of_le hob (Nat.le_trans (two_pow_le (by omega)) (by decide))
  obtain ⟨x, hx⟩ : ∃ x, x = I (o : Int) := ⟨_, rfl⟩
  rw [← hx] at e hj'
  refine ⟨_, e, ?_⟩
  have f1 : House_rooms (House_set_joined (House_set_openDoors v x) j') = House_rooms v := by rw [Ho_rooms_joined, Ho_rooms_openDoors]
  have f2 : House_doors (House_set_joined (House_set_openDoors v x) j') = House_doors v := by rw [Ho_doors_joined, Ho_doors_openDoors]
  have f3 : House_guards (House_set_joined (House_set_openDoors v x) j') = House_guards v := by rw [Ho_guards_joined, Ho_guards_openDoors]
  have f4 : House_minute (House_set_joined (House_set_openDoors v x) j') = House_minute v := by rw [Ho_minute_joined, Ho_minute_openDoors]
  have f5 : House_openDoors (House_set_joined (House_set_openDoors v x) j') = x := by rw [Ho_openDoors_joined, Ho_openDoors_openDoors]
  have f6 : House_doorFirst (House_set_joined (House_set_openDoors v x) j') = House_doorFirst v := by rw [Ho_doorFirst_joined, Ho_doorFirst_openDoors]
  have f7 : House_doorSecond (House_set_joined (House_set_openDoors v x) j') = House_doorSecond v := by rw [Ho_doorSecond_joined, Ho_doorSecond_openDoors]
  have f8 : House_limits (House_set_joined (House_set_openDoors v x) j') = House_limits v := by rw [Ho_limits_joined, Ho_limits_openDoors]
  have f9 : House_periods (House_set_joined (House_set_openDoors v x) j') = House_periods v := by rw [Ho_periods_joined, Ho_periods_openDoors]
  have f10 : House_phases (House_set_joined (House_set_openDoors v x) j') = House_phases v := by rw [Ho_phases_joined, Ho_phases_openDoors]
  have f11 : House_walks (House_set_joined (House_set_openDoors v x) j') = House_walks v := by rw [Ho_walks_joined, Ho_walks_openDoors]
  have f12 : House_walked (House_set_joined (House_set_openDoors v x) j') = House_walked v := by rw [Ho_walked_joined, Ho_walked_openDoors]
  have f13 : House_sightings (House_set_joined (House_set_openDoors v x) j') = House_sightings v := by rw [Ho_sightings_joined, Ho_sightings_openDoors]
  have f14 : House_lastSeen (House_set_joined (House_set_openDoors v x) j') = House_lastSeen v := by rw [Ho_lastSeen_joined, Ho_lastSeen_openDoors]
  have f15 : House_runs (House_set_joined (House_set_openDoors v x) j') = House_runs v := by rw [Ho_runs_joined, Ho_runs_openDoors]
  have f16 : House_longestRuns (House_set_joined (House_set_openDoors v x) j') = House_longestRuns v := by rw [Ho_longestRuns_joined, Ho_longestRuns_openDoors]
  have f17 : House_walksStamp (House_set_joined (House_set_openDoors v x) j') = House_walksStamp v := by rw [Ho_walksStamp_joined, Ho_walksStamp_openDoors]
  have f18 : House_phasesStamp (House_set_joined (House_set_openDoors v x) j') = House_phasesStamp v := by rw [Ho_phasesStamp_joined, Ho_phasesStamp_openDoors]
  revert f1 f2 f3 f4 f5 f6 f7 f8 f9 f10 f11 f12 f13 f14 f15 f16 f17 f18 hj'
  generalize House_set_joined (House_set_openDoors v x) j' = w
  intro hj' f1 f2 f3 f4 f5 f6 f7 f8 f9 f10 f11 f12 f13 f14 f15 f16 f17 f18
  have gO : hO w = o := by unfold hO; rw [f5, hx]; exact I_clamp o hpo
  have gD : hD w = hD v := by unfold hD; rw [f2]
  have gG : hG w = hG v := by unfold hG; rw [f3]
  have gP : hP w = hP v := by unfold hP; rw [f9]
  refine ⟨⟨?_, wfd_c f2 f1 f6 f7 hd, hj', wfl_c f8 hl, wfG_c f1 f3 f9 f10 f11 f12 hw, wfs_c f4 f13 f15 f16 f14 hs⟩, ?_, sw_c f1 f3 f9 f10 f11, f17, f18, f11⟩
  · obtain ⟨a1, a2, a3, a4, a5, a6, a7, a8, a9, a10, a11⟩ := hn
    unfold WFn
    rw [gO, gD, gG, f1, f2, f3, f4, f5, show hR w = hR v by unfold hR; rw [f1], show hM w = hM v by unfold hM; rw [f4]]
    exact ⟨a1, a2, a3, a4, a5, a6, a7, a8, a9, hx, hob⟩
  · obtain ⟨a1, a2, a3, a4, a5, a6, a7⟩ := hr
    unfold RelM
    rw [gO, gD, gG, gP, f1, f2, f3, f4, f6, f7, f8, f9, f10, f11, f13, f14, f15, f16]
    rw [upd_n (by omega), upd_n (by omega), upd_n (by omega), upd_n (by omega)]
    refine ⟨a1, a2, a3, a4, fun r hr => ?_, fun q hq => ?_, fun g hg => ?_⟩
    · rw [upd_n (by omega), upd_n (by omega), upd_n (by omega), upd_n (by omega), upd_n (by omega)]
      exact a5 r hr
    · obtain ⟨b1, b2, b3⟩ := a6 q hq
      rw [upd_n (by omega), upd_n (by omega), hbit]
      refine ⟨b1, b2, ?_⟩
      by_cases c : q = d
      · rw [if_pos c, c, upd_i]
      · rw [if_neg c, upd_n (by omega)]
        exact b3
    · obtain ⟨b1, b2, b3⟩ := a7 g hg
      rw [upd_n (by omega), upd_n (by omega)]
      exact ⟨b1, b2, fun s hs => by rw [upd_n (by omega)]; exact b3 s hs⟩
end DOORS3

