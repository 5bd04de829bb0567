section MODEL
/-- a row of the model holds the house v -/
def RelM (w : Nat → Int32) (v : HouseV) : Prop :=
  w 0 = House_rooms v ∧ w 1 = House_doors v ∧ w 2 = House_guards v ∧ w 3 = House_minute v ∧
  (∀ r, r < 12 → w (4 + 5 * r) = House_limits v r ∧ w (5 + 5 * r) = House_sightings v r ∧ w (6 + 5 * r) = House_lastSeen v r ∧ w (7 + 5 * r) = House_runs v r ∧ w (8 + 5 * r) = House_longestRuns v r) ∧
  (∀ d, d < hD v → w (64 + 3 * d) = House_doorFirst v d ∧ w (65 + 3 * d) = House_doorSecond v d ∧ w (66 + 3 * d) = I ((bif (hO v).testBit d then 1 else 0 : Nat) : Int)) ∧
  (∀ g, g < hG v → w (124 + 12 * g) = House_periods v g ∧ w (125 + 12 * g) = House_phases v g ∧ ∀ s, s < hP v g → w (126 + 12 * g + s) = House_walks v (10 * g + s))
theorem inRange_s {x a b : Int} (h1 : -2147483648 ≤ x) (h2 : x ≤ 2147483647) (h3 : -2147483648 ≤ a) (h4 : a ≤ 2147483647) (h5 : -2147483648 ≤ b) (h6 : b ≤ 2147483647) : Mod_inRange (I x) (I a) (I b) = some (decide (a ≤ x ∧ x ≤ b)) := by
  unfold Mod_inRange
  by_cases c1 : x < a
  · rw [if_pos (I_lt_t c1 h1 h4), decide_eq_false (by omega)]
  · rw [if_neg (I_lt_f (by omega) h3 h2)]
    by_cases c2 : b < x
    · rw [if_pos (I_lt_t c2 h5 h2), decide_eq_false (by omega)]
    · rw [if_neg (I_lt_f (by omega) h1 h6), decide_eq_true (by omega)]
theorem roomAt_m {r f : Int} : Mod_roomAt (I r) (I f) = some (I (4 + 5 * r + f)) := by
  unfold Mod_roomAt
  rw [I4, I5, I_mul, I_add, I_add]
theorem doorAt_m {d f : Int} : Mod_doorAt (I d) (I f) = some (I (64 + 3 * d + f)) := by
  unfold Mod_doorAt
  rw [I64, I3, I_mul, I_add, I_add]
theorem guardAt_m {g f : Int} : Mod_guardAt (I g) (I f) = some (I (124 + 12 * g + f)) := by
  unfold Mod_guardAt
  rw [I124, I12, I_mul, I_add, I_add]
section
variable {mv : ModelV} {v : HouseV}
theorem rooms_m (hr : RelM (Model_now mv) v) (hn : WFn v) : Mod_rooms mv = some (I (hR v)) := by
  unfold Mod_rooms
  rw [I0, gd_I (by omega) (by omega) (by omega), I_nat (by omega) (by omega)]
  exact congrArg some (hr.1.trans hn.1)
theorem guards_m (hr : RelM (Model_now mv) v) (hn : WFn v) : Mod_guards mv = some (I (hG v)) := by
  unfold Mod_guards
  rw [I2, gd_I (by omega) (by omega) (by omega), I_nat (by omega) (by omega)]
  exact congrArg some (hr.2.2.1.trans hn.2.2.2.2.2.1)
theorem doors_m (hr : RelM (Model_now mv) v) (hn : WFn v) : Model_now mv (Int32.toNatClampNeg 1) = I (hD v) := hr.2.1.trans hn.2.2.2.1
theorem ofRoom_m {r f : Nat} (hr : r < 12) (hf : f < 5) : Mod_ofRoom (I (r : Int)) (I (f : Int)) mv = some (Model_now mv (4 + 5 * r + f)) := by
  unfold Mod_ofRoom
  rw [roomAt_m, bind_s, gd_I (by omega) (by omega) (by omega), I_nat (by omega) (by omega), show (4 + 5 * (r : Int) + (f : Int)).toNat = 4 + 5 * r + f by omega]
theorem ofDoor_m {d f : Nat} (hd : d < 20) (hf : f < 3) : Mod_ofDoor (I (d : Int)) (I (f : Int)) mv = some (Model_now mv (64 + 3 * d + f)) := by
  unfold Mod_ofDoor
  rw [doorAt_m, bind_s, gd_I (by omega) (by omega) (by omega), I_nat (by omega) (by omega), show (64 + 3 * (d : Int) + (f : Int)).toNat = 64 + 3 * d + f by omega]
theorem period_m (hr : RelM (Model_now mv) v) (hn : WFn v) {g : Nat} (hg : g < hG v) : Mod_period (I (g : Int)) mv = some (House_periods v g) := by
  have hG4 : hG v ≤ 4 := hn.2.2.2.2.2.2.1
  unfold Mod_period
  rw [I0, guardAt_m, bind_s, gd_I (by omega) (by omega) (by omega), I_nat (by omega) (by omega), show (124 + 12 * (g : Int) + 0).toNat = 124 + 12 * g by omega, (hr.2.2.2.2.2.2 g hg).1]
theorem phaseOf_m (hr : RelM (Model_now mv) v) (hn : WFn v) {g : Nat} (hg : g < hG v) : Mod_phaseOf (I (g : Int)) mv = some (House_phases v g) := by
  have hG4 : hG v ≤ 4 := hn.2.2.2.2.2.2.1
  unfold Mod_phaseOf
  rw [I1, guardAt_m, bind_s, gd_I (by omega) (by omega) (by omega), I_nat (by omega) (by omega), show (124 + 12 * (g : Int) + 1).toNat = 125 + 12 * g by omega, (hr.2.2.2.2.2.2 g hg).2.1]
theorem step_m (hr : RelM (Model_now mv) v) (hn : WFn v) {g s : Nat} (hg : g < hG v) (hw : WFw v g) (hs : s < hP v g) : Mod_step (I (g : Int)) (I (s : Int)) mv = some (I (hW v g s)) := by
  have hG4 : hG v ≤ 4 := hn.2.2.2.2.2.2.1
  have hP10 : hP v g ≤ 10 := hw.2.1
  unfold Mod_step
  rw [I2, I_add, guardAt_m, bind_s, gd_I (by omega) (by omega) (by omega), I_nat (by omega) (by omega), show (124 + 12 * (g : Int) + (2 + (s : Int))).toNat = 126 + 12 * g + s by omega, (hr.2.2.2.2.2.2 g hg).2.2 s hs, (hw.2.2.1 s hs).1]
theorem cycle_m_loop (hr : RelM (Model_now mv) v) (hn : WFn v) (hw : WFG v) : ∀ (m k n : Nat), hG v = k + m → m < n → Mod_cycle_4 mv n (I ((cycTo (hP v) k : Nat) : Int)) (I (k : Int)) = some (I ((cyc v : Nat) : Int)) := by
  have hG4 : hG v ≤ 4 := hn.2.2.2.2.2.2.1
  intro m
  induction m with
  | zero =>
    intro k n hk hm
    obtain ⟨n, rfl⟩ : ∃ q, n = q + 1 := ⟨n - 1, by omega⟩
    rw [Mod_cycle_4, guards_m hr hn, bind_s, if_pos (I_le_t (by omega) (by omega) (by omega)), cyc, hk, Nat.add_zero]
  | succ m ih =>
    intro k n hk hm
    obtain ⟨n, rfl⟩ : ∃ q, n = q + 1 := ⟨n - 1, by omega⟩
    have hp := hw.per k (by omega)
    have hc : ∀ g, g < k → 1 ≤ hP v g ∧ hP v g ≤ 10 := fun g hg => hw.per g (by omega)
    have h1 := cycTo_pos hc
    have h2 := cycTo_le hc
    rw [Mod_cycle_4, guards_m hr hn, bind_s, if_neg (I_le_f (by omega) (by omega) (by omega)), period_m hr hn (by omega), bind_s, (hw k (by omega)).1.1, common_s h1 (by omega) hp.2, bind_s, nmL_e, I_succ]
    exact ih (k + 1) n (by omega) (by omega)
theorem cycle_m (hr : RelM (Model_now mv) v) (hn : WFn v) (hw : WFG v) : Mod_cycle mv = some (I ((cyc v : Nat) : Int)) := by
  have hG4 : hG v ≤ 4 := hn.2.2.2.2.2.2.1
  unfold Mod_cycle
  exact cycle_m_loop hr hn hw (hG v) 0 FU (by omega) (by unfold FU; omega)
/-- the phases that the model tries -/
def PhM (mv : ModelV) (v : HouseV) (ph : Nat → Nat) : Prop := ∀ g, g < hG v → Model_phases mv g = I (ph g) ∧ ph g < hP v g
def placeP (v : HouseV) (ph : Nat → Nat) (g t : Nat) : Nat := hW v g ((t % hP v g + ph g) % hP v g)
theorem placeP_lt {g : Nat} (hg : WFg v g) (ph : Nat → Nat) (t : Nat) : placeP v ph g t < hR v := (hg.1.2.2.1 _ (Nat.mod_lt _ hg.2.1)).2
theorem place_m (hr : RelM (Model_now mv) v) (hn : WFn v) {ph : Nat → Nat} (hp : PhM mv v ph) {g t : Nat} (hg : g < hG v) (hw : WFg v g) (ht : t < 2147483648) : Mod_place (I (g : Int)) (I (t : Int)) mv = some (I (placeP v ph g t)) := by
  have hG4 : hG v ≤ 4 := hn.2.2.2.2.2.2.1
  obtain ⟨⟨e, a, w, w9⟩, p1, f, f1⟩ := id hw
  have hm : t % hP v g < hP v g := Nat.mod_lt _ p1
  obtain ⟨q1, q2⟩ := hp g hg
  have hm2 : (t % hP v g + ph g) % hP v g < hP v g := Nat.mod_lt _ p1
  unfold Mod_place placeP
  rw [period_m hr hn hg, bind_s, e, gd_t (nz_I (by omega) (by omega)), gd_I (by omega) (by omega) (by omega), bind_s, gd_t (nz_I (by omega) (by omega)), I_clamp g (by omega), q1, I_rem (by omega) (by omega) (by omega) (by omega), I_add, show ((t : Int) % (hP v g : Int) + (ph g : Int)) = ((t % hP v g + ph g : Nat) : Int) from rfl, I_rem (by omega) (by omega) (by omega) (by omega), show (((t % hP v g + ph g : Nat) : Int) % (hP v g : Int)) = (((t % hP v g + ph g) % hP v g : Nat) : Int) from rfl, step_m hr hn hg hw.1 hm2, bind_s]
theorem guardsAt_m_loop (hr : RelM (Model_now mv) v) (hn : WFn v) (hw : WFG v) {ph : Nat → Nat} (hp : PhM mv v ph) {x t : Nat} (hx : x < 12) (ht : t < 2147483648) : ∀ (m k n : Nat), hG v = k + m → m < n → Mod_guardsAt_5 (I (x : Int)) (I (t : Int)) mv n (I ((msk (fun g => decide (placeP v ph g t = x)) k : Nat) : Int)) (I (k : Int)) = some (I ((msk (fun g => decide (placeP v ph g t = x)) (hG v) : Nat) : Int)) := by
  have hG4 : hG v ≤ 4 := hn.2.2.2.2.2.2.1
  have hR12 : hR v ≤ 12 := hn.2.2.1
  intro m
  induction m with
  | zero =>
    intro k n hk hm
    obtain ⟨n, rfl⟩ : ∃ q, n = q + 1 := ⟨n - 1, by omega⟩
    rw [Mod_guardsAt_5, guards_m hr hn, bind_s, if_pos (I_le_t (by omega) (by omega) (by omega)), hk, Nat.add_zero]
  | succ m ih =>
    intro k n hk hm
    obtain ⟨n, rfl⟩ : ∃ q, n = q + 1 := ⟨n - 1, by omega⟩
    have hpl := placeP_lt (hw k (by omega)) ph t
    have := ih (k + 1) n (by omega) (by omega)
    rw [Mod_guardsAt_5, guards_m hr hn, bind_s, if_neg (I_le_f (by omega) (by omega) (by omega)), place_m hr hn hp (by omega) (hw k (by omega)) ht, bind_s]
    by_cases h : placeP v ph k t = x
    · rw [msk, decide_eq_true h, bif_t] at this
      rw [if_pos (by rw [h]), nmL_e, nmL_e, I_shl k (by omega), I_or, I_succ]
      exact this
    · rw [msk, decide_eq_false h, bif_f] at this
      rw [if_neg (I_ne (by omega) (by omega) (by omega) (by omega) (by omega)), nmL_e, nmL_e, I_zero, I_or, I_succ]
      exact this
theorem guardsAt_m (hr : RelM (Model_now mv) v) (hn : WFn v) (hw : WFG v) {ph : Nat → Nat} (hp : PhM mv v ph) {x t : Nat} (hx : x < 12) (ht : t < 2147483648) : Mod_guardsAt (I (x : Int)) (I (t : Int)) mv = some (I ((msk (fun g => decide (placeP v ph g t = x)) (hG v) : Nat) : Int)) := by
  have hG4 : hG v ≤ 4 := hn.2.2.2.2.2.2.1
  unfold Mod_guardsAt
  exact guardsAt_m_loop hr hn hw hp hx ht (hG v) 0 FU (by omega) (by unfold FU; omega)
def seenP (v : HouseV) (ph : Nat → Nat) (t : Nat) : Nat := ors (fun g => 1 <<< placeP v ph g t) (hG v)
theorem seenAt_m_loop (hr : RelM (Model_now mv) v) (hn : WFn v) (hw : WFG v) {ph : Nat → Nat} (hp : PhM mv v ph) {t : Nat} (ht : t < 2147483648) : ∀ (m k n : Nat), hG v = k + m → m < n → Mod_seenAt_4 (I (t : Int)) mv n (I ((ors (fun g => 1 <<< placeP v ph g t) k : Nat) : Int)) (I (k : Int)) = some (I ((seenP v ph t : Nat) : Int)) := by
  have hG4 : hG v ≤ 4 := hn.2.2.2.2.2.2.1
  have hR12 : hR v ≤ 12 := hn.2.2.1
  intro m
  induction m with
  | zero =>
    intro k n hk hm
    obtain ⟨n, rfl⟩ : ∃ q, n = q + 1 := ⟨n - 1, by omega⟩
    rw [Mod_seenAt_4, guards_m hr hn, bind_s, if_pos (I_le_t (by omega) (by omega) (by omega)), seenP, hk, Nat.add_zero]
  | succ m ih =>
    intro k n hk hm
    obtain ⟨n, rfl⟩ : ∃ q, n = q + 1 := ⟨n - 1, by omega⟩
    have hpl := placeP_lt (hw k (by omega)) ph t
    rw [Mod_seenAt_4, guards_m hr hn, bind_s, if_neg (I_le_f (by omega) (by omega) (by omega)), place_m hr hn hp (by omega) (hw k (by omega)) ht, bind_s, nmL_e, nmL_e, I_shl _ (by omega), I_or, I_succ]
    exact ih (k + 1) n (by omega) (by omega)
theorem seenAt_m (hr : RelM (Model_now mv) v) (hn : WFn v) (hw : WFG v) {ph : Nat → Nat} (hp : PhM mv v ph) {t : Nat} (ht : t < 2147483648) : Mod_seenAt (I (t : Int)) mv = some (I ((seenP v ph t : Nat) : Int)) := by
  have hG4 : hG v ≤ 4 := hn.2.2.2.2.2.2.1
  unfold Mod_seenAt
  exact seenAt_m_loop hr hn hw hp ht (hG v) 0 FU (by omega) (by unfold FU; omega)
end
end MODEL
