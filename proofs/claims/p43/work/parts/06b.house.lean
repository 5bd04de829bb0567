section HOUSE
theorem I_le_t {a b : Int} (h : a ≤ b) (h1 : -2147483648 ≤ a) (h2 : b ≤ 2147483647) : I a ≤ I b := by rw [I_le (by omega) (by omega) (by omega) (by omega)]; exact h
theorem I_le_f {a b : Int} (h : b < a) (h1 : -2147483648 ≤ b) (h2 : a ≤ 2147483647) : ¬ I a ≤ I b := by rw [I_le (by omega) (by omega) (by omega) (by omega)]; omega
theorem I_lt_t {a b : Int} (h : a < b) (h1 : -2147483648 ≤ a) (h2 : b ≤ 2147483647) : I a < I b := by rw [I_lt (by omega) (by omega) (by omega) (by omega)]; exact h
theorem I_lt_f {a b : Int} (h : b ≤ a) (h1 : -2147483648 ≤ b) (h2 : a ≤ 2147483647) : ¬ I a < I b := by rw [I_lt (by omega) (by omega) (by omega) (by omega)]; omega
theorem I_ne {a b : Int} (h : a ≠ b) (h1 : -2147483648 ≤ a) (h2 : a ≤ 2147483647) (h3 : -2147483648 ≤ b) (h4 : b ≤ 2147483647) : ¬ I a = I b := by rw [I_eq h1 h2 h3 h4]; exact h
theorem I_succ (k : Nat) : I (k : Int) + 1 = I ((k + 1 : Nat) : Int) := by rw [I1, I_add]; rfl
theorem I_zero : (0 : Int32) = I ((0 : Nat) : Int) := rfl
theorem I_clamp (k : Nat) (h : k < 2147483648) : (I (k : Int)).toNatClampNeg = k := by rw [I_nat (by omega) (by omega)]; exact Int.toNat_natCast k
/-! a house by its numbers -/
def hR (v : HouseV) : Nat := (House_rooms v).toNatClampNeg
def hD (v : HouseV) : Nat := (House_doors v).toNatClampNeg
def hG (v : HouseV) : Nat := (House_guards v).toNatClampNeg
def hM (v : HouseV) : Nat := (House_minute v).toNatClampNeg
def hO (v : HouseV) : Nat := (House_openDoors v).toNatClampNeg
def hA (v : HouseV) (d : Nat) : Nat := (House_doorFirst v d).toNatClampNeg
def hB (v : HouseV) (d : Nat) : Nat := (House_doorSecond v d).toNatClampNeg
def hJ (v : HouseV) (r : Nat) : Nat := (House_joined v r).toNatClampNeg
def hL (v : HouseV) (r : Nat) : Nat := (House_limits v r).toNatClampNeg
def hP (v : HouseV) (g : Nat) : Nat := (House_periods v g).toNatClampNeg
def hF (v : HouseV) (g : Nat) : Nat := (House_phases v g).toNatClampNeg
def hW (v : HouseV) (g s : Nat) : Nat := (House_walks v (10 * g + s)).toNatClampNeg
def hK (v : HouseV) (g : Nat) : Nat := (House_walked v g).toNatClampNeg
/-- the numbers of rooms, doors, guards, the minute -/
def WFn (v : HouseV) : Prop := House_rooms v = I (hR v) ∧ 1 ≤ hR v ∧ hR v ≤ 12 ∧ House_doors v = I (hD v) ∧ hD v ≤ 20 ∧ House_guards v = I (hG v) ∧ hG v ≤ 4 ∧ House_minute v = I (hM v) ∧ hM v ≤ 99999 ∧ House_openDoors v = I (hO v) ∧ hO v < 2 ^ hD v
/-- the doors -/
def WFd (v : HouseV) : Prop := ∀ d, d < hD v → House_doorFirst v d = I (hA v d) ∧ hA v d < hR v ∧ House_doorSecond v d = I (hB v d) ∧ hB v d < hR v ∧ hA v d ≠ hB v d
/-- one guard's walk -/
def WFw (v : HouseV) (g : Nat) : Prop := House_periods v g = I (hP v g) ∧ hP v g ≤ 10 ∧ (∀ s, s < hP v g → House_walks v (10 * g + s) = I (hW v g s) ∧ hW v g s < hR v) ∧ House_walked v g = I (hK v g) ∧ hK v g = ors (fun s => 1 <<< hW v g s) (hP v g)
/-- one guard -/
def WFg (v : HouseV) (g : Nat) : Prop := WFw v g ∧ 1 ≤ hP v g ∧ House_phases v g = I (hF v g) ∧ hF v g < hP v g
/-- the room of a guard at a minute -/
def place (v : HouseV) (g t : Nat) : Nat := hW v g ((t % hP v g + hF v g) % hP v g)
theorem hasRoom_s {v : HouseV} (hn : WFn v) {x : Int} (h1 : -2147483648 ≤ x) (h2 : x ≤ 2147483647) : House_hasRoom (I x) v = some (decide (0 ≤ x ∧ x < hR v)) := by
  obtain ⟨e, a1, a2, -⟩ := hn
  unfold House_hasRoom
  rw [e, I0, I12]
  by_cases h : x < 0
  · rw [if_pos (I_lt_t h h1 (by omega)), decide_eq_false (by omega)]
  · rw [if_neg (I_lt_f (by omega) (by omega) h2)]
    by_cases h3 : (hR v : Int) ≤ x
    · rw [if_pos (I_le_t h3 (by omega) h2), decide_eq_false (by omega)]
    · rw [if_neg (I_le_f (by omega) (by omega) (by omega)), if_neg (I_le_f (by omega) (by omega) (by omega)), decide_eq_true (by omega)]
theorem hasDoor_s {v : HouseV} (hn : WFn v) {x : Int} (h1 : -2147483648 ≤ x) (h2 : x ≤ 2147483647) : House_hasDoor (I x) v = some (decide (0 ≤ x ∧ x < hD v)) := by
  obtain ⟨-, -, -, e, a2, -⟩ := hn
  unfold House_hasDoor
  rw [e, I0, I20]
  by_cases h : x < 0
  · rw [if_pos (I_lt_t h h1 (by omega)), decide_eq_false (by omega)]
  · rw [if_neg (I_lt_f (by omega) (by omega) h2)]
    by_cases h3 : (hD v : Int) ≤ x
    · rw [if_pos (I_le_t h3 (by omega) h2), decide_eq_false (by omega)]
    · rw [if_neg (I_le_f (by omega) (by omega) (by omega)), if_neg (I_le_f (by omega) (by omega) (by omega)), decide_eq_true (by omega)]
theorem hasGuard_s {v : HouseV} (hn : WFn v) {x : Int} (h1 : -2147483648 ≤ x) (h2 : x ≤ 2147483647) : House_hasGuard (I x) v = some (decide (0 ≤ x ∧ x < hG v)) := by
  obtain ⟨-, -, -, -, -, e, a2, -⟩ := hn
  unfold House_hasGuard
  rw [e, I0, I4]
  by_cases h : x < 0
  · rw [if_pos (I_lt_t h h1 (by omega)), decide_eq_false (by omega)]
  · rw [if_neg (I_lt_f (by omega) (by omega) h2)]
    by_cases h3 : (hG v : Int) ≤ x
    · rw [if_pos (I_le_t h3 (by omega) h2), decide_eq_false (by omega)]
    · rw [if_neg (I_le_f (by omega) (by omega) (by omega)), if_neg (I_le_f (by omega) (by omega) (by omega)), decide_eq_true (by omega)]
theorem gwhas_s {a k : Nat} (ha : a < 2147483648) (hk : k < 32) : GW_has (I (a : Int)) (I (k : Int)) = some (a.testBit k) := by
  unfold GW_has
  have h := I_has ha hk
  cases hb : a.testBit k
  · rw [if_pos (by rw [h, hb])]
  · rw [if_neg (by rw [h, hb]; simp)]
theorem two_pow_le {n : Nat} (h : n ≤ 30) : 2 ^ n ≤ 1073741824 := Nat.pow_le_pow_right (by decide) h
theorem isOpen_s {v : HouseV} (hn : WFn v) {d : Nat} (hd : d < 32) : House_isOpen (I (d : Int)) v = some ((hO v).testBit d) := by
  obtain ⟨-, -, -, -, a, -, -, -, -, e, b⟩ := hn
  unfold House_isOpen
  rw [e, gwhas_s (Nat.lt_of_lt_of_le b (Nat.le_trans (two_pow_le (by omega)) (by decide))) hd]
  rfl
theorem walkRoom_s {v : HouseV} (hn : WFn v) {g s : Nat} (hg : g < hG v) (hw : WFw v g) (hs : s < 2147483648) : House_walkRoom (I (g : Int)) (I (s : Int)) v = some (if s < hP v g then I (hW v g s) else -1) := by
  obtain ⟨e, a, w, -⟩ := hw
  have hG4 : hG v ≤ 4 := hn.2.2.2.2.2.2.1
  unfold House_walkRoom
  rw [hasGuard_s hn (by omega) (by omega), decide_eq_true (by omega), bind_s, bif_t, I_zero, if_neg (I_lt_f (by omega) (by omega) (by omega)), gd_I (by omega) (by omega) (by omega), I_clamp g (by omega), e]
  by_cases h : s < hP v g
  · rw [if_neg (I_le_f (by omega) (by omega) (by omega)), I10, if_pos (I_lt_t (by omega) (by omega) (by omega)), I_mul, I_add, gd_I (by omega) (by omega) (by omega), I_nat (by omega) (by omega), if_pos h, show ((g : Int) * 10 + (s : Int)).toNat = 10 * g + s by omega, (w s h).1]
  · rw [if_pos (I_le_t (by omega) (by omega) (by omega)), if_neg h]
theorem walkRoom_neg {v : HouseV} (hn : WFn v) {g : Nat} {x : Int} (hg : g < hG v) (h1 : -2147483648 ≤ x) (h2 : x < 0) : House_walkRoom (I (g : Int)) (I x) v = some (-1) := by
  have hG4 : hG v ≤ 4 := hn.2.2.2.2.2.2.1
  unfold House_walkRoom
  rw [hasGuard_s hn (by omega) (by omega), decide_eq_true (by omega), bind_s, bif_t, I0, if_pos (I_lt_t h2 h1 (by omega))]
theorem lastRoom_s {v : HouseV} (hn : WFn v) {g : Nat} (hg : g < hG v) (hw : WFw v g) : House_lastRoom (I (g : Int)) v = some (if hP v g = 0 then -1 else I (hW v g (hP v g - 1))) := by
  obtain ⟨e, a, w, -⟩ := hw
  have hG4 : hG v ≤ 4 := hn.2.2.2.2.2.2.1
  unfold House_lastRoom
  rw [hasGuard_s hn (by omega) (by omega), decide_eq_true (by omega), bind_s, bif_t, gd_I (by omega) (by omega) (by omega), I_clamp g (by omega), e, I1]
  by_cases h : hP v g = 0
  · rw [if_pos (I_lt_t (by omega) (by omega) (by omega)), if_pos h]
  · rw [if_neg (I_lt_f (by omega) (by omega) (by omega)), I10, if_pos (I_le_t (by omega) (by omega) (by omega)), I_mul, I_add, I_sub, gd_I (by omega) (by omega) (by omega), I_nat (by omega) (by omega), if_neg h, show ((g : Int) * 10 + (hP v g : Int) - 1).toNat = 10 * g + (hP v g - 1) by omega, (w _ (by omega)).1]
theorem place_lt {v : HouseV} {g : Nat} (hg : WFg v g) (t : Nat) : place v g t < hR v := (hg.1.2.2.1 _ (Nat.mod_lt _ hg.2.1)).2
theorem roomAt_s {v : HouseV} (hn : WFn v) {g t : Nat} (hg : g < hG v) (hw : WFg v g) (ht : t < 2147483648) : House_roomAt (I (g : Int)) (I (t : Int)) v = some (I (place v g t)) := by
  obtain ⟨⟨e, a, w, -⟩, p1, f, f1⟩ := hw
  have hG4 : hG v ≤ 4 := hn.2.2.2.2.2.2.1
  have hm : t % hP v g < hP v g := Nat.mod_lt _ p1
  unfold House_roomAt place
  rw [hasGuard_s hn (by omega) (by omega), decide_eq_true (by omega), bind_s, bif_t, I_zero, if_neg (I_lt_f (by omega) (by omega) (by omega)), gd_I (by omega) (by omega) (by omega), I_clamp g (by omega), e, f, I1, if_pos (I_le_t (by omega) (by omega) (by omega)), gd_t (nz_I (by omega) (by omega)), nmL_e, I_rem (by omega) (by omega) (by omega) (by omega), I_add, show ((t : Int) % (hP v g : Int) + (hF v g : Int)) = ((t % hP v g + hF v g : Nat) : Int) by omega]
  have key : ∀ x : Nat, x < hP v g → House_roomAt_59 (I (g : Int)) (I (t : Int)) v (I (x : Int)) = some (I (hW v g x)) := by
    intro x hx
    unfold House_roomAt_59
    rw [I_zero, if_neg (I_lt_f (by omega) (by omega) (by omega)), I10, if_pos (I_lt_t (by omega) (by omega) (by omega)), I_mul, I_add, gd_I (by omega) (by omega) (by omega), I_nat (by omega) (by omega), show ((g : Int) * 10 + (x : Int)).toNat = 10 * g + x by omega, (w x hx).1]
  by_cases h : t % hP v g + hF v g < hP v g
  · rw [if_pos (I_lt_t (by omega) (by omega) (by omega)), key _ h, Nat.mod_eq_of_lt h]
  · rw [if_neg (I_lt_f (by omega) (by omega) (by omega)), nmL_e, I_sub, show (((t % hP v g + hF v g : Nat) : Int) - (hP v g : Int)) = ((t % hP v g + hF v g - hP v g : Nat) : Int) by omega, key _ (by omega), show (t % hP v g + hF v g) % hP v g = t % hP v g + hF v g - hP v g from by rw [Nat.mod_eq_sub_mod (a := t % hP v g + hF v g) (by omega), Nat.mod_eq_of_lt (by omega : t % hP v g + hF v g - hP v g < hP v g)]]
/-- all guards -/
def WFG (v : HouseV) : Prop := ∀ g, g < hG v → WFg v g
theorem guardsAt_loop {v : HouseV} (hn : WFn v) (hw : WFG v) {x t : Nat} (hx : x < 12) (ht : t < 2147483648) : ∀ (m k n : Nat), hG v = k + m → m < n → House_guardsAt_5 (I (x : Int)) (I (t : Int)) v n (I ((msk (fun g => decide (place v g t = x)) k : Nat) : Int)) (I (k : Int)) = some (I ((msk (fun g => decide (place v g t = x)) (hG v) : Nat) : Int)) := by
  have hG4 : hG v ≤ 4 := hn.2.2.2.2.2.2.1
  have hR12 : hR v ≤ 12 := hn.2.2.1
  have eG : House_guards v = I (hG v) := hn.2.2.2.2.2.1
  intro m
  induction m with
  | zero =>
    intro k n hk hm
    obtain ⟨n, rfl⟩ : ∃ q, n = q + 1 := ⟨n - 1, by omega⟩
    rw [House_guardsAt_5, eG, if_pos (I_le_t (by omega) (by omega) (by omega)), hk, Nat.add_zero]
  | succ m ih =>
    intro k n hk hm
    obtain ⟨n, rfl⟩ : ∃ q, n = q + 1 := ⟨n - 1, by omega⟩
    have hpl := place_lt (hw k (by omega)) t
    rw [House_guardsAt_5, eG, if_neg (I_le_f (by omega) (by omega) (by omega)), roomAt_s hn (by omega) (hw k (by omega)) ht, bind_s]
    by_cases h : place v k t = x
    · rw [if_pos (by rw [h]), nmL_e, nmL_e, I_shl k (by omega), I_or, I_succ]
      have := ih (k + 1) n (by omega) (by omega)
      rw [msk, decide_eq_true h, bif_t] at this
      exact this
    · rw [if_neg (I_ne (by omega) (by omega) (by omega) (by omega) (by omega)), nmL_e, I_succ]
      have := ih (k + 1) n (by omega) (by omega)
      rw [msk, decide_eq_false h, bif_f, Nat.or_zero] at this
      exact this
theorem guardsAt_s {v : HouseV} (hn : WFn v) (hw : WFG v) {x t : Nat} (hx : x < 12) (ht : t < 2147483648) : House_guardsAt (I (x : Int)) (I (t : Int)) v = some (I ((msk (fun g => decide (place v g t = x)) (hG v) : Nat) : Int)) := by
  have hG4 : hG v ≤ 4 := hn.2.2.2.2.2.2.1
  unfold House_guardsAt
  exact guardsAt_loop hn hw hx ht (hG v) 0 FU (by omega) (by unfold FU; omega)
/-- the rooms that are seen at a minute -/
def seen (v : HouseV) (t : Nat) : Nat := ors (fun g => 1 <<< place v g t) (hG v)
theorem roomsSeenAt_loop {v : HouseV} (hn : WFn v) (hw : WFG v) {t : Nat} (ht : t < 2147483648) : ∀ (m k n : Nat), hG v = k + m → m < n → House_roomsSeenAt_4 (I (t : Int)) v n (I ((ors (fun g => 1 <<< place v g t) k : Nat) : Int)) (I (k : Int)) = some (I ((seen v t : Nat) : Int)) := by
  have hG4 : hG v ≤ 4 := hn.2.2.2.2.2.2.1
  have hR12 : hR v ≤ 12 := hn.2.2.1
  have eG : House_guards v = I (hG v) := hn.2.2.2.2.2.1
  intro m
  induction m with
  | zero =>
    intro k n hk hm
    obtain ⟨n, rfl⟩ : ∃ q, n = q + 1 := ⟨n - 1, by omega⟩
    rw [House_roomsSeenAt_4, eG, if_pos (I_le_t (by omega) (by omega) (by omega)), seen, hk, Nat.add_zero]
  | succ m ih =>
    intro k n hk hm
    obtain ⟨n, rfl⟩ : ∃ q, n = q + 1 := ⟨n - 1, by omega⟩
    have hpl := place_lt (hw k (by omega)) t
    rw [House_roomsSeenAt_4, eG, if_neg (I_le_f (by omega) (by omega) (by omega)), roomAt_s hn (by omega) (hw k (by omega)) ht, bind_s, Im1, if_neg (I_ne (by omega) (by omega) (by omega) (by omega) (by omega)), nmL_e, nmL_e, I_shl _ (by omega), I_or, I_succ]
    exact ih (k + 1) n (by omega) (by omega)
theorem roomsSeenAt_s {v : HouseV} (hn : WFn v) (hw : WFG v) {t : Nat} (ht : t < 2147483648) : House_roomsSeenAt (I (t : Int)) v = some (I ((seen v t : Nat) : Int)) := by
  have hG4 : hG v ≤ 4 := hn.2.2.2.2.2.2.1
  unfold House_roomsSeenAt
  exact roomsSeenAt_loop hn hw ht (hG v) 0 FU (by omega) (by unfold FU; omega)
theorem seen_lt {v : HouseV} (hw : WFG v) (t : Nat) : seen v t < 2 ^ hR v := ors_lt fun g hg => bit_lt (place_lt (hw g hg) t)
theorem seen_bit {v : HouseV} (t r : Nat) : (seen v t).testBit r = true ↔ ∃ g, g < hG v ∧ place v g t = r := by
  unfold seen
  rw [ors_bit]
  constructor
  · rintro ⟨g, hg, h⟩
    rw [Nat.one_shiftLeft, Nat.testBit_two_pow] at h
    exact ⟨g, hg, of_decide_eq_true h⟩
  · rintro ⟨g, hg, h⟩
    exact ⟨g, hg, by rw [Nat.one_shiftLeft, Nat.testBit_two_pow]; exact decide_eq_true h⟩
end HOUSE

