section CYC
theorem lcm_of_first {a b k : Nat} (ha : 1 ≤ a) (hb : 1 ≤ b) (hk : 1 ≤ k) (hd : b ∣ a * k) (hmin : ∀ j, 1 ≤ j → j < k → ¬ b ∣ a * j) : Nat.lcm a b = a * k := by
  obtain ⟨q, hq⟩ := Nat.dvd_lcm_left a b
  have hbq : b ∣ a * q := hq ▸ Nat.dvd_lcm_right a b
  have hl : Nat.lcm a b ∣ a * k := Nat.lcm_dvd (Nat.dvd_mul_right a k) hd
  have hpos : 0 < Nat.lcm a b := Nat.lcm_pos (by omega) (by omega)
  have hq1 : 1 ≤ q := by
    rcases Nat.eq_zero_or_pos q with h | h
    · subst h; omega
    · exact h
  have hle : a * q ≤ a * k := by
    rw [← hq]
    exact Nat.le_of_dvd (Nat.mul_pos (by omega) (by omega)) hl
  have hqk : q ≤ k := Nat.le_of_mul_le_mul_left hle (by omega)
  by_cases h : q < k
  · exact absurd hbq (hmin q hq1 h)
  · rw [hq, show q = k by omega]
theorem lm_loop {a b : Nat} (ha : 1 ≤ a) (ha2 : a ≤ 100000) (hb : 1 ≤ b) (hb2 : b ≤ 10) : ∀ (m k n : Nat), b = k + m → m < n → 1 ≤ k → (∀ j, 1 ≤ j → j < k → ¬ b ∣ a * j) → GW_leastMultiple_9 (I (a : Int)) (I (b : Int)) n (I (k : Int)) = some (I ((Nat.lcm a b : Nat) : Int)) := by
  intro m
  induction m with
  | zero =>
    intro k n hk hm h1 hmin
    obtain ⟨n, rfl⟩ : ∃ q, n = q + 1 := ⟨n - 1, by omega⟩
    rw [GW_leastMultiple_9, if_pos (I_le_t (by omega) (by omega) (by omega)), lcm_of_first ha hb h1 (by rw [hk, Nat.add_zero]; exact Nat.dvd_mul_left _ _) hmin, I_mul, show k = b by omega]
    rfl
  | succ m ih =>
    intro k n hk hm h1 hmin
    obtain ⟨n, rfl⟩ : ∃ q, n = q + 1 := ⟨n - 1, by omega⟩
    have hak : a * k ≤ 100000 * 10 := Nat.mul_le_mul ha2 (by omega)
    have e : (a : Int) * (k : Int) = ((a * k : Nat) : Int) := rfl
    rw [GW_leastMultiple_9, if_neg (I_le_f (by omega) (by omega) (by omega)), gd_t (nz_I (by omega) (by omega)), I_mul, e, I_rem (by omega) (by omega) (by omega) (by omega), I0]
    by_cases h : b ∣ a * k
    · have hz : ((a * k : Nat) : Int) % (b : Int) = 0 := by have := Nat.mod_eq_zero_of_dvd h; omega
      rw [if_pos (by rw [hz]), lcm_of_first ha hb h1 h hmin]
    · have hz : ((a * k : Nat) : Int) % (b : Int) ≠ 0 := by
        intro h2
        exact h (Nat.dvd_of_mod_eq_zero (by omega))
      have hle : ((a * k : Nat) : Int) % (b : Int) ≤ ((a * k : Nat) : Int) := Int.ofNat_le.mpr (Nat.mod_le (a * k) b)
      have hge : 0 ≤ ((a * k : Nat) : Int) % (b : Int) := Int.natCast_nonneg ((a * k) % b)
      generalize ((a * k : Nat) : Int) % (b : Int) = y at hz hle hge ⊢
      rw [if_neg (I_ne hz (by omega) (by omega) (by omega) (by omega)), nmL_e, I_succ]
      refine ih (k + 1) n (by omega) (by omega) (by omega) (fun j j1 j2 => ?_)
      by_cases hj : j = k
      · subst hj; exact h
      · exact hmin j j1 (by omega)
theorem leastMultiple_s {a b : Nat} (ha : 1 ≤ a) (ha2 : a ≤ 100000) (hb : 1 ≤ b) (hb2 : b ≤ 10) : GW_leastMultiple (I (a : Int)) (I (b : Int)) = some (I ((Nat.lcm a b : Nat) : Int)) := by
  unfold GW_leastMultiple
  rw [I1, if_pos (I_le_t (by omega) (by omega) (by omega))]
  exact lm_loop ha ha2 hb hb2 (b - 1) 1 FU (by omega) (by unfold FU; omega) (Nat.le_refl 1) (fun j j1 j2 => by omega)
/-- the common cycle of the first n periods -/
def cycTo (p : Nat → Nat) : Nat → Nat
  | 0 => 1
  | n + 1 => Nat.lcm (cycTo p n) (p n)
theorem per_dvd : ∀ x, x < 11 → 1 ≤ x → x ∣ 2520 := by decide
theorem cycTo_dvd {p : Nat → Nat} {n : Nat} (h : ∀ g, g < n → 1 ≤ p g ∧ p g ≤ 10) : cycTo p n ∣ 2520 := by
  induction n with
  | zero => exact Nat.one_dvd _
  | succ n ih => exact Nat.lcm_dvd (ih fun g hg => h g (by omega)) (per_dvd _ (by have := (h n (by omega)).2; omega) (h n (by omega)).1)
theorem cycTo_le {p : Nat → Nat} {n : Nat} (h : ∀ g, g < n → 1 ≤ p g ∧ p g ≤ 10) : cycTo p n ≤ 2520 := Nat.le_of_dvd (by decide) (cycTo_dvd h)
theorem cycTo_pos {p : Nat → Nat} {n : Nat} (h : ∀ g, g < n → 1 ≤ p g ∧ p g ≤ 10) : 1 ≤ cycTo p n := Nat.pos_of_dvd_of_pos (cycTo_dvd h) (by decide)
theorem cycTo_per {p : Nat → Nat} {n g : Nat} (hg : g < n) : p g ∣ cycTo p n := by
  induction n with
  | zero => omega
  | succ n ih =>
    by_cases h : g = n
    · subst h; exact Nat.dvd_lcm_right _ _
    · exact Nat.dvd_trans (ih (by omega)) (Nat.dvd_lcm_left _ _)
def cyc (v : HouseV) : Nat := cycTo (hP v) (hG v)
theorem WFG.per {v : HouseV} (hw : WFG v) : ∀ g, g < hG v → 1 ≤ hP v g ∧ hP v g ≤ 10 := fun g hg => ⟨(hw g hg).2.1, (hw g hg).1.2.1⟩
theorem cyc_le {v : HouseV} (hw : WFG v) : cyc v ≤ 2520 := cycTo_le hw.per
theorem cyc_pos {v : HouseV} (hw : WFG v) : 1 ≤ cyc v := cycTo_pos hw.per
theorem cycle_loop {v : HouseV} (hn : WFn v) (hw : WFG v) : ∀ (m k n : Nat), hG v = k + m → m < n → House_cycleLength_4 v n (I ((cycTo (hP v) k : Nat) : Int)) (I (k : Int)) = some (I ((cyc v : Nat) : Int)) := by
  have hG4 : hG v ≤ 4 := hn.2.2.2.2.2.2.1
  have eG : House_guards v = I (hG v) := hn.2.2.2.2.2.1
  intro m
  induction m with
  | zero =>
    intro k n hk hm
    obtain ⟨n, rfl⟩ : ∃ q, n = q + 1 := ⟨n - 1, by omega⟩
    rw [House_cycleLength_4, eG, if_pos (I_le_t (by omega) (by omega) (by omega)), cyc, hk, Nat.add_zero]
  | succ m ih =>
    intro k n hk hm
    obtain ⟨n, rfl⟩ : ∃ q, n = q + 1 := ⟨n - 1, by omega⟩
    have hp := hw.per k (by omega)
    have hc : ∀ g, g < k → 1 ≤ hP v g ∧ hP v g ≤ 10 := fun g hg => hw.per g (by omega)
    have h1 := cycTo_pos hc
    have h2 := cycTo_le hc
    rw [House_cycleLength_4, eG, if_neg (I_le_f (by omega) (by omega) (by omega)), I4, if_neg (I_le_f (by omega) (by omega) (by omega)), gd_I (by omega) (by omega) (by omega), I_clamp k (by omega), (hw k (by omega)).1.1, leastMultiple_s h1 (by omega) hp.1 hp.2, bind_s, nmL_e, I_succ]
    exact ih (k + 1) n (by omega) (by omega)
theorem cycleLength_s {v : HouseV} (hn : WFn v) (hw : WFG v) : House_cycleLength v = some (I ((cyc v : Nat) : Int)) := by
  have hG4 : hG v ≤ 4 := hn.2.2.2.2.2.2.1
  unfold House_cycleLength
  exact cycle_loop hn hw (hG v) 0 FU (by omega) (by unfold FU; omega)
/-! the model's way to it -/
end CYC

