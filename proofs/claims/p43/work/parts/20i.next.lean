section NEXT
theorem bitlt {a n i : Nat} (ha : a < 2 ^ n) (h : a.testBit i = true) : i < n := by
  apply Nat.lt_of_not_le
  intro hle
  have := Nat.testBit_lt_two_pow (Nat.lt_of_lt_of_le ha (Nat.pow_le_pow_right (by decide) hle))
  rw [h] at this
  cases this
/-- where a guard comes from who comes into r behind the minute t -/
def barr (v : HouseV) (t r : Nat) : Nat := ors (fun g => if place v g (t + 1) = r then 1 <<< place v g t else 0) (hG v)
/-- the rooms of an intruder a minute later -/
def nx (v : HouseV) (t A : Nat) : Nat := sdf (A ||| ors (fun r => bif A.testBit r then sdf (jm v r) (barr v t r) else 0) (hR v)) (seen v (t + 1))
theorem barr_bit (v : HouseV) (t r s : Nat) : (barr v t r).testBit s = true ↔ ∃ g, g < hG v ∧ place v g (t + 1) = r ∧ place v g t = s := by
  unfold barr
  rw [ors_bit]
  constructor
  · rintro ⟨g, hg, h⟩
    by_cases c : place v g (t + 1) = r
    · rw [if_pos c, tb_one] at h
      exact ⟨g, hg, c, of_decide_eq_true h⟩
    · rw [if_neg c, Nat.zero_testBit] at h; cases h
  · rintro ⟨g, hg, c, h⟩
    exact ⟨g, hg, by rw [if_pos c, tb_one]; exact decide_eq_true h⟩
theorem sdf_iff (a b i : Nat) : (sdf a b).testBit i = true ↔ a.testBit i = true ∧ b.testBit i = false := by
  rw [sdf_bit, Bool.and_eq_true, Bool.not_eq_true']
theorem or_iff (a b i : Nat) : (a ||| b).testBit i = true ↔ a.testBit i = true ∨ b.testBit i = true := by
  rw [Nat.testBit_or, Bool.or_eq_true]
theorem nx_bit (v : HouseV) (t A s : Nat) : (nx v t A).testBit s = true ↔ (A.testBit s = true ∨ ∃ r, r < hR v ∧ A.testBit r = true ∧ (jm v r).testBit s = true ∧ (barr v t r).testBit s = false) ∧ (seen v (t + 1)).testBit s = false := by
  unfold nx
  rw [sdf_iff, or_iff, ors_bit]
  constructor
  · rintro ⟨h1 | ⟨r, hr, h⟩, h2⟩
    · exact ⟨Or.inl h1, h2⟩
    · cases hA : A.testBit r
      · rw [hA, bif_f, Nat.zero_testBit] at h; cases h
      · rw [hA, bif_t, sdf_iff] at h
        exact ⟨Or.inr ⟨r, hr, hA, h.1, h.2⟩, h2⟩
  · rintro ⟨h1 | ⟨r, hr, hA, h3, h4⟩, h2⟩
    · exact ⟨Or.inl h1, h2⟩
    · exact ⟨Or.inr ⟨r, hr, by rw [hA, bif_t, sdf_iff]; exact ⟨h3, h4⟩⟩, h2⟩
theorem sdf_lt {a b n : Nat} (h : a < 2 ^ n) : sdf a b < 2 ^ n := Nat.lt_of_le_of_lt (sdf_le a b) h
theorem nx_lt {v : HouseV} (hd : WFd v) {t A : Nat} (hA : A < 2 ^ hR v) : nx v t A < 2 ^ hR v := by
  refine sdf_lt (or_lt hA (ors_lt fun r _ => ?_))
  cases A.testBit r
  · exact Nat.two_pow_pos _
  · exact sdf_lt (jm_lt hd r)
theorem nx_zero (v : HouseV) (t : Nat) : nx v t 0 = 0 := by
  apply nat_ext
  intro i
  rw [Nat.zero_testBit]
  cases h : (nx v t 0).testBit i
  · rfl
  · rw [nx_bit] at h
    rcases h.1 with h1 | ⟨r, -, h1, -⟩
    · rw [Nat.zero_testBit] at h1; cases h1
    · rw [Nat.zero_testBit] at h1; cases h1
theorem pow31 {n : Nat} (h : n ≤ 12) : 2 ^ n ≤ 4096 := Nat.pow_le_pow_right (by decide) h
/-! the class -/
theorem bar_loop {v : HouseV} (hn : WFn v) (hw : WFG v) {t : Nat} (ht : t < 2147483647) {iv : IntrV} : ∀ (q k n : Nat) (b : Nat → Int32), hG v = k + q → q < n → (∀ r, r < 12 → b r = I ((ors (fun g => if place v g (t + 1) = r then 1 <<< place v g t else 0) k : Nat) : Int)) → ∃ b', Intr_barPassing_10 (I (t : Int)) v n (I (k : Int)) (Intr_set_barred iv b) = some (Intr_set_barred iv b') ∧ ∀ r, r < 12 → b' r = I (barr v t r : Int) := by
  have hG4 : hG v ≤ 4 := hn.2.2.2.2.2.2.1
  have hR12 : hR v ≤ 12 := hn.2.2.1
  have eG : House_guards v = I (hG v) := hn.2.2.2.2.2.1
  intro q
  induction q with
  | zero =>
    intro k n b hk hm h1
    obtain ⟨n, rfl⟩ : ∃ q, n = q + 1 := ⟨n - 1, by omega⟩
    rw [Intr_barPassing_10, eG, if_pos (I_le_t (by omega) (by omega) (by omega))]
    refine ⟨b, rfl, fun r hr => ?_⟩
    rw [h1 r hr, barr, show k = hG v by omega]
  | succ q ih =>
    intro k n b hk hm h1
    obtain ⟨n, rfl⟩ : ∃ q, n = q + 1 := ⟨n - 1, by omega⟩
    have p1 := place_lt (hw k (by omega)) t
    have p2 := place_lt (hw k (by omega)) (t + 1)
    rw [Intr_barPassing_10, eG, if_neg (I_le_f (by omega) (by omega) (by omega)), roomAt_s hn (by omega) (hw k (by omega)) (by omega), bind_s, I_succ, roomAt_s hn (by omega) (hw k (by omega)) (by omega), bind_s, I0, if_neg (I_lt_f (by omega) (by omega) (by omega)), if_neg (I_lt_f (by omega) (by omega) (by omega)), I12, if_neg (I_le_f (by omega) (by omega) (by omega)), gd_I (by omega) (by omega) (by omega), nmL_e, nmL_e, I_clamp _ (by omega), I_shl _ (by omega), I_succ]
    have eb : Intr_barred (Intr_set_barred iv b) = b := rfl
    rw [eb, h1 _ (by omega), I_or]
    refine ih (k + 1) n (upd b (place v k (t + 1)) _) (by omega) (by omega) (fun r hr => ?_)
    rw [upd_e, ors]
    by_cases c : r = place v k (t + 1)
    · rw [if_pos c, if_pos c.symm, c]
    · rw [if_neg c, if_neg (fun h => c h.symm), Nat.or_zero, h1 r hr]
theorem barPassing_s {v : HouseV} (hn : WFn v) (hw : WFG v) {t : Nat} (ht : t < 2147483647) (iv : IntrV) : ∃ b', Intr_barPassing (I (t : Int)) iv v = some (Intr_set_barred iv b') ∧ ∀ r, r < 12 → b' r = I (barr v t r : Int) := by
  have hG4 : hG v ≤ 4 := hn.2.2.2.2.2.2.1
  unfold Intr_barPassing
  obtain ⟨f, a, b⟩ := fill_s (x := 0) (N := 12) (by decide) (Intr_barred iv)
  rw [a, bind_s, nmL_e]
  exact bar_loop hn hw ht (iv := iv) (hG v) 0 FU f (by omega) (by unfold FU; omega) (fun r hr => b r hr)
theorem roomsNext_loop {v : HouseV} (hn : WFn v) (hd : WFd v) (hj : WFj v) (hw : WFG v) {t A : Nat} (ht : t < 2147483646) (hA : A < 2 ^ hR v) {iv : IntrV} (hb : ∀ r, r < 12 → Intr_barred iv r = I (barr v t r : Int)) : ∀ (q k n : Nat), hR v = k + q → q < n → Intr_roomsNext_12 (I (A : Int)) (I (t : Int)) v n (I ((A ||| ors (fun r => bif A.testBit r then sdf (jm v r) (barr v t r) else 0) k : Nat) : Int)) (I (k : Int)) iv = some (I (nx v t A : Int), iv) := by
  have hR12 : hR v ≤ 12 := hn.2.2.1
  have eR : House_rooms v = I (hR v) := hn.1
  have hp := pow31 hR12
  intro q
  induction q with
  | zero =>
    intro k n hk hm
    obtain ⟨n, rfl⟩ : ∃ q, n = q + 1 := ⟨n - 1, by omega⟩
    rw [Intr_roomsNext_12, eR, if_pos (I_le_t (by omega) (by omega) (by omega))]
    unfold Intr_roomsNext_65 nx
    rw [I_succ, roomsSeenAt_s hn hw (by omega), bind_s, I_andn, show k = hR v by omega]
  | succ q ih =>
    intro k n hk hm
    obtain ⟨n, rfl⟩ : ∃ q, n = q + 1 := ⟨n - 1, by omega⟩
    have hh := ih (k + 1) n (by omega) (by omega)
    rw [ors] at hh
    rw [Intr_roomsNext_12, eR, if_neg (I_le_f (by omega) (by omega) (by omega)), I12, if_neg (I_le_f (by omega) (by omega) (by omega)), gwhas_s (by omega) (by omega), bind_s]
    cases hb1 : A.testBit k
    · rw [hb1, bif_f, Nat.or_zero] at hh
      rw [bif_f, nmL_e, I_succ]
      exact hh
    · rw [hb1, bif_t, ← Nat.or_assoc] at hh
      rw [bif_t, gd_I (by omega) (by omega) (by omega), nmL_e, nmL_e, I_clamp k (by omega), hj k (by omega), hb k (by omega), I_andn, I_or, I_succ]
      exact hh
theorem roomsNext_s {v : HouseV} (hn : WFn v) (hd : WFd v) (hj : WFj v) (hw : WFG v) {t A : Nat} (ht : t < 2147483646) (hA : A < 2 ^ hR v) (iv : IntrV) : ∃ iv', Intr_roomsNext (I (A : Int)) (I (t : Int)) iv v = some (I (nx v t A : Int), iv') ∧ Intr_visited iv' = Intr_visited iv := by
  have hR12 : hR v ≤ 12 := hn.2.2.1
  obtain ⟨b', e, h⟩ := barPassing_s hn hw (t := t) (by omega) iv
  unfold Intr_roomsNext
  rw [e, bind_s]
  have := roomsNext_loop hn hd hj hw ht hA (iv := Intr_set_barred iv b') h (hR v) 0 FU (by omega) (by unfold FU; omega)
  rw [ors, Nat.or_zero] at this
  exact ⟨_, this, rfl⟩
/-! the model -/
/-- where one can get from r, less where the first k guards pass -/
def rf (v : HouseV) (r t : Nat) : Nat → Nat
  | 0 => jm v r ||| 1 <<< r
  | k + 1 => if place v k t ≠ r ∧ place v k (t + 1) = r then sdf (rf v r t k) (1 <<< place v k t) else rf v r t k
theorem rf_bit (v : HouseV) (r t s : Nat) : ∀ k, (rf v r t k).testBit s = true ↔ ((jm v r).testBit s = true ∨ r = s) ∧ ∀ g, g < k → ¬ (place v g t ≠ r ∧ place v g (t + 1) = r ∧ place v g t = s) := by
  intro k
  induction k with
  | zero =>
    unfold rf
    rw [or_iff, tb_one, decide_eq_true_iff]
    exact ⟨fun h => ⟨h, fun g hg => absurd hg (by omega)⟩, fun h => h.1⟩
  | succ k ih =>
    unfold rf
    by_cases c : place v k t ≠ r ∧ place v k (t + 1) = r
    · rw [if_pos c, sdf_iff, ih, tb_one, decide_eq_false_iff_not]
      constructor
      · rintro ⟨⟨h1, h2⟩, h3⟩
        refine ⟨h1, fun g hg => ?_⟩
        by_cases hgk : g = k
        · subst hgk; exact fun h => h3 h.2.2
        · exact h2 g (by omega)
      · rintro ⟨h1, h2⟩
        exact ⟨⟨h1, fun g hg => h2 g (by omega)⟩, fun h => h2 k (by omega) ⟨c.1, c.2, h⟩⟩
    · rw [if_neg c, ih]
      constructor
      · rintro ⟨h1, h2⟩
        refine ⟨h1, fun g hg => ?_⟩
        by_cases hgk : g = k
        · subst hgk; exact fun h => c ⟨h.1, h.2.1⟩
        · exact h2 g (by omega)
      · rintro ⟨h1, h2⟩
        exact ⟨h1, fun g hg => h2 g (by omega)⟩
section
variable {v : HouseV}
theorem nx_model (hd : WFd v) (hw : WFG v) {t A : Nat} (hA : A < 2 ^ hR v) : ors (fun r => bif A.testBit r then sdf (rf v r t (hG v)) (seen v (t + 1)) else 0) (hR v) = nx v t A := by
  apply nat_ext
  intro s
  rw [Bool.eq_iff_iff, ors_bit, nx_bit]
  constructor
  · rintro ⟨r, hr, h⟩
    cases hAr : A.testBit r
    · rw [hAr, bif_f, Nat.zero_testBit] at h; cases h
    · rw [hAr, bif_t, sdf_iff, rf_bit] at h
      obtain ⟨⟨h1, h2⟩, h3⟩ := h
      refine ⟨?_, h3⟩
      by_cases hrs : r = s
      · subst hrs; exact Or.inl hAr
      · rcases h1 with h1 | h1
        · refine Or.inr ⟨r, hr, hAr, h1, ?_⟩
          cases hb : (barr v t r).testBit s
          · rfl
          · rw [barr_bit] at hb
            obtain ⟨g, hg, q1, q2⟩ := hb
            exact absurd ⟨by rw [q2]; exact fun h => hrs h.symm, q1, q2⟩ (h2 g hg)
        · exact absurd h1 hrs
  · rintro ⟨h1 | ⟨r, hr, hAr, h1, h2⟩, h3⟩
    · refine ⟨s, bitlt hA h1, ?_⟩
      rw [h1, bif_t, sdf_iff, rf_bit]
      exact ⟨⟨Or.inr rfl, fun g hg h => h.1 h.2.2⟩, h3⟩
    · refine ⟨r, hr, ?_⟩
      rw [hAr, bif_t, sdf_iff, rf_bit]
      refine ⟨⟨Or.inl h1, fun g hg h => ?_⟩, h3⟩
      have : (barr v t r).testBit s = true := (barr_bit v t r s).mpr ⟨g, hg, h.2.1, h.2.2⟩
      rw [h2] at this
      cases this
end
end NEXT

