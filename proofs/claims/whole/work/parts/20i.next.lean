section NEXT
theorem bitlt {a n i : Nat} (ha : a < 2 ^ n) (h : a.testBit i = true) : i < n := by
  apply Nat.lt_of_not_le
  intro hle
  have := Nat.testBit_lt_two_pow (Nat.lt_of_lt_of_le ha (Nat.pow_le_pow_right (by decide) hle))
  rw [h] at this
  cases this
/-- where a guard comes from who comes into r behind the minute t -/
def barr (v : HouseV) (t r : Nat) : Nat := ors (fun g => if place v g (t + 1) = r then 1 <<< place v g t else 0) (hG v)
/-- the rooms of an intruder a minute later -/
def nx (v : HouseV) (t A : Nat) : Nat := sdf (A ||| ors (fun r => bif A.testBit r then sdf (jm v r) (barr v t r) else 0) (hR v)) (seen v (t + 1))
theorem barr_bit (v : HouseV) (t r s : Nat) : (barr v t r).testBit s = true ↔ ∃ g, g < hG v ∧ place v g (t + 1) = r ∧ place v g t = s := by
  unfold barr
  rw [ors_bit]
  constructor
  · rintro ⟨g, hg, h⟩
    by_cases c : place v g (t + 1) = r
    · rw [if_pos c, tb_one] at h
      exact ⟨g, hg, c, of_decide_eq_true h⟩
    · rw [if_neg c, Nat.zero_testBit] at h; cases h
  · rintro ⟨g, hg, c, h⟩
    exact ⟨g, hg, by rw [if_pos c, tb_one]; exact decide_eq_true h⟩
theorem sdf_iff (a b i : Nat) : (sdf a b).testBit i = true ↔ a.testBit i = true ∧ b.testBit i = false := by
  rw [sdf_bit, Bool.and_eq_true, Bool.not_eq_true']
theorem or_iff (a b i : Nat) : (a ||| b).testBit i = true ↔ a.testBit i = true ∨ b.testBit i = true := by
  rw [Nat.testBit_or, Bool.or_eq_true]
theorem nx_bit (v : HouseV) (t A s : Nat) : (nx v t A).testBit s = true ↔ (A.testBit s = true ∨ ∃ r, r < hR v ∧ A.testBit r = true ∧ (jm v r).testBit s = true ∧ (barr v t r).testBit s = false) ∧ (seen v (t + 1)).testBit s = false := by
  unfold nx
  rw [sdf_iff, or_iff, ors_bit]
  constructor
  · rintro ⟨h1 | ⟨r, hr, h⟩, h2⟩
    · exact ⟨Or.inl h1, h2⟩
    · cases hA : A.testBit r
      · rw [hA, bif_f, Nat.zero_testBit] at h; cases h
      · rw [hA, bif_t, sdf_iff] at h
        exact ⟨Or.inr ⟨r, hr, hA, h.1, h.2⟩, h2⟩
  · rintro ⟨h1 | ⟨r, hr, hA, h3, h4⟩, h2⟩
    · exact ⟨Or.inl h1, h2⟩
    · exact ⟨Or.inr ⟨r, hr, by rw [hA, bif_t, sdf_iff]; exact ⟨h3, h4⟩⟩, h2⟩
theorem sdf_lt {a b n : Nat} (h : a < 2 ^ n) : sdf a b < 2 ^ n := Nat.lt_of_le_of_lt (sdf_le a b) h
theorem nx_lt {v : HouseV} (hd : WFd v) {t A : Nat} (hA : A < 2 ^ hR v) : nx v t A < 2 ^ hR v := by
  refine sdf_lt (or_lt hA (ors_lt fun r _ => ?_))
  cases A.testBit r
  · exact Nat.two_pow_pos _
  · exact sdf_lt (jm_lt hd r)
theorem nx_zero (v : HouseV) (t : Nat) : nx v t 0 = 0 := by
  apply nat_ext
  intro i
  rw [Nat.zero_testBit]
  cases h : (nx v t 0).testBit i
  · rfl
  · rw [nx_bit] at h
    rcases h.1 with h1 | ⟨r, -, h1, -⟩
    · rw [Nat.zero_testBit] at h1; cases h1
    · rw [Nat.zero_testBit] at h1; cases h1
theorem pow31 {n : Nat} (h : n ≤ 12) : 2 ^ n ≤ 4096 := Nat.pow_le_pow_right (by decide) h
/-! the class -/
theorem bar_loop {v : HouseV} (hn : WFn v) (hw : WFG v) {t : Nat} (ht : t < 2147483647) {iv : IntrV} : ∀ (q k n : Nat) (b : Nat → Int32), hG v = k + q → q < n → (∀ r, r < 12 → b r = I ((ors (fun g => if place v g (t + 1) = r then 1 <<< place v g t else 0) k : Nat) : Int)) → ∃ b', Intr_barPassing_10 (I (t : Int)) v n (I (k : Int)) (Intr_set_barred iv b) = some (Intr_set_barred iv b') ∧ ∀ r, r < 12 → b' r = I (barr v t r : Int) := by
  have hG4 : hG v ≤ 4 := hn.2.2.2.2.2.2.1
  have hR12 : hR v ≤ 12 := hn.2.2.1
  have eG : House_guards v = I (hG v) := hn.2.2.2.2.2.1
  intro q
  induction q with
  | zero =>
    intro k n b hk hm h1
    obtain ⟨n, rfl⟩ : ∃ q, n = q + 1 := ⟨n - 1, by omega⟩
    rw [Intr_barPassing_10, eG, if_pos (I_le_t (by omega) (by omega) (by omega))]
    refine ⟨b, rfl, fun r hr => ?_⟩
    rw [h1 r hr, barr, show k = hG v by omega]
  | succ q ih =>
    intro k n b hk hm h1
    obtain ⟨n, rfl⟩ : ∃ q, n = q + 1 := ⟨n - 1, by omega⟩
    have p1 := place_lt (hw k (by omega)) t
    have p2 := place_lt (hw k (by omega)) (t + 1)
    rw [Intr_barPassing_10, eG, if_neg (I_le_f (by omega) (by omega) (by omega)), roomAt_s hn (by omega) (hw k (by omega)) (by omega), bind_s, I_succ, roomAt_s hn (by omega) (hw k (by omega)) (by omega), bind_s, I0, if_neg (I_lt_f (by omega) (by omega) (by omega)), if_neg (I_lt_f (by omega) (by omega) (by omega)), I12, if_neg (I_le_f (by omega) (by omega) (by omega)), gd_I (by omega) (by omega) (by omega), nmL_e, nmL_e, I_clamp _ (by omega), I_shl _ (by omega), I_succ]
    have eb : Intr_barred (Intr_set_barred iv b) = b := rfl
    rw [eb, h1 _ (by omega), I_or]
    refine ih (k + 1) n (upd b (place v k (t + 1)) _) (by omega) (by omega) (fun r hr => ?_)
    rw [upd_e, ors]
    by_cases c : r = place v k (t + 1)
    · rw [if_pos c, if_pos c.symm, c]
    · rw [if_neg c, if_neg (fun h => c h.symm), Nat.or_zero, h1 r hr]
theorem barPassing_s {v : HouseV} (hn : WFn v) (hw : WFG v) {t : Nat} (ht : t < 2147483647) (iv : IntrV) : ∃ b', Intr_barPassing (I (t : Int)) iv v = some (Intr_set_barred iv b') ∧ ∀ r, r < 12 → b' r = I (barr v t r : Int) := by
  have hG4 : hG v ≤ 4 := hn.2.2.2.2.2.2.1
  unfold Intr_barPassing
  obtain ⟨f, a, b⟩ := fill_s (x := 0) (N := 12) (by decide) (Intr_barred iv)
  rw [a, bind_s, nmL_e]
  exact bar_loop hn hw ht (iv := iv) (hG v) 0 FU f (by omega) (by unfold FU; omega) (fun r hr => b r hr)
theorem roomsNext_loop {v : HouseV} (hn : WFn v) (hd : WFd v) (hj : WFj v) (hw : WFG v) {t A : Nat} (ht : t < 2147483646) (hA : A < 2 ^ hR v) {iv : IntrV} (hb : ∀ r, r < 12 → Intr_barred iv r = I (barr v t r : Int)) : ∀ (q k n : Nat), hR v = k + q → q < n → Intr_roomsNext_12 (I (A : Int)) (I (t : Int)) v n (I ((A ||| ors (fun r => bif A.testBit r then sdf (jm v r) (barr v t r) else 0) k : Nat) : Int)) (I (k : Int)) iv = some (I (nx v t A : Int), iv) := by
  have hR12 : hR v ≤ 12 := hn.2.2.1
  have eR : House_rooms v = I (hR v) := hn.1
  have hp := pow31 hR12
  intro q
  induction q with
  | zero =>
    intro k n hk hm
    obtain ⟨n, rfl⟩ : ∃ q, n = q + 1 := ⟨n - 1, by omega⟩
    rw [Intr_roomsNext_12, eR, if_pos (I_le_t (by omega) (by omega) (by omega))]
    unfold Intr_roomsNext_65 nx
    rw [I_succ, roomsSeenAt_s hn hw (by omega), bind_s, I_andn, show k = hR v by omega]
  | succ q ih =>
    intro k n hk hm
    obtain ⟨n, rfl⟩ : ∃ q, n = q + 1 := ⟨n - 1, by omega⟩
    have hh := ih (k + 1) n (by omega) (by omega)
    rw [ors] at hh
    rw [Intr_roomsNext_12, eR, if_neg (I_le_f (by omega) (by omega) (by omega)), I12, if_neg (I_le_f (by omega) (by omega) (by omega)), gwhas_s (by omega) (by omega), bind_s]
    cases hb1 : A.testBit k
    · rw [hb1, bif_f, Nat.or_zero] at hh
      rw [bif_f, nmL_e, I_succ]
      exact hh
    · rw [hb1, bif_t, ← Nat.or_assoc] at hh
      rw [bif_t, gd_I (by omega) (by omega) (by omega), nmL_e, nmL_e, I_clamp k (by omega), hj k (by omega), hb k (by omega), I_andn, I_or, I_succ]
      exact hh
theorem roomsNext_s {v : HouseV} (hn : WFn v) (hd : WFd v) (hj : WFj v) (hw : WFG v) {t A : Nat} (ht : t < 2147483646) (hA : A < 2 ^ hR v) (iv : IntrV) : ∃ iv', Intr_roomsNext (I (A : Int)) (I (t : Int)) iv v = some (I (nx v t A : Int), iv') ∧ Intr_visited iv' = Intr_visited iv := by
  have hR12 : hR v ≤ 12 := hn.2.2.1
  obtain ⟨b', e, h⟩ := barPassing_s hn hw (t := t) (by omega) iv
  unfold Intr_roomsNext
  rw [e, bind_s]
  have := roomsNext_loop hn hd hj hw ht hA (iv := Intr_set_barred iv b') h (hR v) 0 FU (by omega) (by unfold FU; omega)
  rw [ors, Nat.or_zero] at this
  exact ⟨_, this, rfl⟩
/-! the model -/
theorem modhas_s {a k : Nat} (ha : a < 2147483648) (hk : k < 32) : Mod_has (I (a : Int)) (I (k : Int)) = some (a.testBit k) := by
  unfold Mod_has
  have h := I_has ha hk
  have h01 : ∀ x : Int32, x &&& 1 = 0 ∨ x &&& 1 = 1 := by
    intro x
    have hx : x &&& 1 = I ((x.toBitVec.toNat % 2 : Nat) : Int) := by
      apply Int32.toBitVec_inj.mp
      rw [I_ofNat]
      show x.toBitVec &&& 1#32 = BitVec.ofNat 32 (x.toBitVec.toNat % 2)
      apply BitVec.eq_of_toNat_eq
      rw [BitVec.toNat_and, BitVec.toNat_ofNat, BitVec.toNat_ofNat]
      show x.toBitVec.toNat &&& 1 = _
      rw [Nat.and_one_is_mod]
      omega
    rcases Nat.mod_two_eq_zero_or_one x.toBitVec.toNat with e | e
    · left; rw [hx, e]; rfl
    · right; rw [hx, e]; rfl
  cases hb : a.testBit k
  · rw [hb] at h
    have h0 : (I (a : Int) >>> (I (k : Int) &&& 31)) &&& 1 = 0 := by rw [h]
    rw [h0, if_neg (by decide)]
  · rw [hb] at h
    have h0 : ¬ (I (a : Int) >>> (I (k : Int) &&& 31)) &&& 1 = 0 := by rw [h]; simp
    rcases h01 (I (a : Int) >>> (I (k : Int) &&& 31)) with e | e
    · exact absurd e h0
    · rw [if_pos e]
theorem rel_jn {M : ModelV} {v : HouseV} {j : Nat → Int32} (h : RelM (Model_now M) v) : RelM (Model_now (Model_set_joined M j)) v := by rw [Mo_now_joined]; exact h
theorem ph_jn {M : ModelV} {v : HouseV} {j : Nat → Int32} {q : Nat → Nat} (h : PhM M v q) : PhM (Model_set_joined M j) v q := fun g hg => by rw [Mo_phases_joined]; exact h g hg
theorem layJ_loop {M : ModelV} {v : HouseV} (hr : RelM (Model_now M) v) (hn : WFn v) (hd : WFd v) : ∀ (q k n : Nat) (j : Nat → Int32), hD v = k + q → q < n → (∀ r, r < hR v → j r = I ((ors (dj v r) k : Nat) : Int)) → ∃ j', Mod_layJoined_25 n (I (k : Int)) (Model_set_joined M j) = some (Model_set_joined M j') ∧ ∀ r, r < hR v → j' r = I (jm v r : Int) := by
  have hR12 : hR v ≤ 12 := hn.2.2.1
  have hD20 : hD v ≤ 20 := hn.2.2.2.2.1
  intro q
  induction q with
  | zero =>
    intro k n j hk hm h1
    obtain ⟨n, rfl⟩ : ∃ q, n = q + 1 := ⟨n - 1, by omega⟩
    rw [Mod_layJoined_25, I1, gd_I (by omega) (by omega) (by omega), ← I1, doors_m (mv := Model_set_joined M j) (rel_jn hr) hn, if_pos (I_le_t (by omega) (by omega) (by omega))]
    refine ⟨j, rfl, fun r h => ?_⟩
    rw [h1 r h, jm, show k = hD v by omega]
  | succ q ih =>
    intro k n j hk hm h1
    obtain ⟨n, rfl⟩ : ∃ q, n = q + 1 := ⟨n - 1, by omega⟩
    obtain ⟨e1, l1, e2, l2, ne⟩ := hd k (by omega)
    obtain ⟨m0, m1, m2⟩ := hr.2.2.2.2.2.1 k (by omega)
    have q0 : ∀ jj, Mod_ofDoor (I (k : Int)) 0 (Model_set_joined M jj) = some (I (hA v k : Int)) := fun jj => by
      rw [I_zero, ofDoor_m (mv := Model_set_joined M jj) (by omega) (by omega), Nat.add_zero, Mo_now_joined, m0, e1]
    have q1 : ∀ jj, Mod_ofDoor (I (k : Int)) 1 (Model_set_joined M jj) = some (I (hB v k : Int)) := fun jj => by
      rw [show (1 : Int32) = I ((1 : Nat) : Int) from rfl, ofDoor_m (mv := Model_set_joined M jj) (by omega) (by omega), show 64 + 3 * k + 1 = 65 + 3 * k by omega, Mo_now_joined, m1, e2]
    have q2 : Mod_ofDoor (I (k : Int)) 2 (Model_set_joined M j) = some (I ((bif opn v k then 1 else 0 : Nat) : Int)) := by
      rw [show (2 : Int32) = I ((2 : Nat) : Int) from rfl, ofDoor_m (mv := Model_set_joined M j) (by omega) (by omega), show 64 + 3 * k + 2 = 66 + 3 * k by omega, Mo_now_joined, m2]
      rfl
    rw [Mod_layJoined_25, I1, gd_I (by omega) (by omega) (by omega), ← I1, doors_m (mv := Model_set_joined M j) (rel_jn hr) hn, if_neg (I_le_f (by omega) (by omega) (by omega)), q2, bind_s]
    cases ho : opn v k
    · rw [bif_f, if_neg (by decide : ¬ I ((0 : Nat) : Int) = 1), nmL_e, I_succ]
      refine ih (k + 1) n j (by omega) (by omega) (fun r h => ?_)
      rw [h1 r h, ors, dj, ho, bif_f, Nat.or_zero]
    · rw [bif_t, if_pos (by decide : I ((1 : Nat) : Int) = 1), q0, bind_s, gd_I (by omega) (by omega) (by omega), q1, bind_s, nmL_e, I_clamp _ (by omega), I_shl _ (by omega)]
      generalize hj1 : upd (Model_joined (Model_set_joined M j)) (hA v k) (Model_joined (Model_set_joined M j) (hA v k) ||| I ((1 <<< hB v k : Nat) : Int)) = j1
      rw [show Model_set_joined (Model_set_joined M j) j1 = Model_set_joined M j1 from rfl, q1, bind_s, gd_I (by omega) (by omega) (by omega), q0, bind_s, nmL_e, nmL_e, I_clamp _ (by omega), I_shl _ (by omega), I_succ]
      refine ih (k + 1) n _ (by omega) (by omega) (fun r hr => ?_)
      show upd j1 (hB v k) (j1 (hB v k) ||| _) r = _
      have ej1 : ∀ q, j1 q = if q = hA v k then j (hA v k) ||| I ((1 <<< hB v k : Nat) : Int) else j q := fun q => by rw [← hj1]; rfl
      rw [upd_e, ors, dj, ho, bif_t]
      by_cases h2 : r = hB v k
      · subst h2
        rw [if_pos rfl, ej1, if_neg (fun h => ne h.symm), if_neg (fun h => ne h), if_pos rfl, h1 _ hr, I_or, Nat.zero_or]
      · rw [if_neg h2, ej1]
        by_cases h3 : r = hA v k
        · subst h3
          rw [if_pos rfl, if_pos rfl, if_neg (fun h => h2 h.symm), h1 _ hr, I_or, Nat.or_zero]
        · rw [if_neg h3, if_neg (fun h => h3 h.symm), if_neg (fun h => h2 h.symm), h1 _ hr, Nat.or_zero, Nat.or_zero]
theorem layJ0_loop {M : ModelV} {v : HouseV} (hr : RelM (Model_now M) v) (hn : WFn v) (hd : WFd v) : ∀ (q k n : Nat) (j : Nat → Int32), hR v = k + q → q < n → (∀ r, r < k → j r = I ((0 : Nat) : Int)) → ∃ j', Mod_layJoined_2 n (I (k : Int)) (Model_set_joined M j) = some (Model_set_joined M j') ∧ ∀ r, r < hR v → j' r = I (jm v r : Int) := by
  have hR12 : hR v ≤ 12 := hn.2.2.1
  have hD20 : hD v ≤ 20 := hn.2.2.2.2.1
  intro q
  induction q with
  | zero =>
    intro k n j hk hm h1
    obtain ⟨n, rfl⟩ : ∃ q, n = q + 1 := ⟨n - 1, by omega⟩
    rw [Mod_layJoined_2, rooms_m (mv := Model_set_joined M j) (rel_jn hr) hn, bind_s, if_pos (I_le_t (by omega) (by omega) (by omega))]
    exact layJ_loop hr hn hd (hD v) 0 FU j (by omega) (by unfold FU; omega) (fun r h => h1 r (by omega))
  | succ q ih =>
    intro k n j hk hm h1
    obtain ⟨n, rfl⟩ : ∃ q, n = q + 1 := ⟨n - 1, by omega⟩
    rw [Mod_layJoined_2, rooms_m (mv := Model_set_joined M j) (rel_jn hr) hn, bind_s, if_neg (I_le_f (by omega) (by omega) (by omega)), gd_I (by omega) (by omega) (by omega), nmL_e, nmL_e, I_clamp k (by omega), I_succ]
    refine ih (k + 1) n (upd j k 0) (by omega) (by omega) (fun r h => ?_)
    by_cases hrk : r = k
    · subst hrk; exact upd_i
    · exact (upd_n hrk).trans (h1 r (by omega))
theorem layJoined_m {M : ModelV} {v : HouseV} (hr : RelM (Model_now M) v) (hn : WFn v) (hd : WFd v) : ∃ j, Mod_layJoined M = some (Model_set_joined M j) ∧ ∀ r, r < hR v → j r = I (jm v r : Int) := by
  have hR12 : hR v ≤ 12 := hn.2.2.1
  unfold Mod_layJoined
  exact layJ0_loop hr hn hd (hR v) 0 FU (Model_joined M) (by omega) (by unfold FU; omega) (fun r h => absurd h (by omega))
/-- where one can get from r, less where the first k guards pass -/
def rf (v : HouseV) (r t : Nat) : Nat → Nat
  | 0 => jm v r ||| 1 <<< r
  | k + 1 => if place v k t ≠ r ∧ place v k (t + 1) = r then sdf (rf v r t k) (1 <<< place v k t) else rf v r t k
theorem rf_bit (v : HouseV) (r t s : Nat) : ∀ k, (rf v r t k).testBit s = true ↔ ((jm v r).testBit s = true ∨ r = s) ∧ ∀ g, g < k → ¬ (place v g t ≠ r ∧ place v g (t + 1) = r ∧ place v g t = s) := by
  intro k
  induction k with
  | zero =>
    unfold rf
    rw [or_iff, tb_one, decide_eq_true_iff]
    exact ⟨fun h => ⟨h, fun g hg => absurd hg (by omega)⟩, fun h => h.1⟩
  | succ k ih =>
    unfold rf
    by_cases c : place v k t ≠ r ∧ place v k (t + 1) = r
    · rw [if_pos c, sdf_iff, ih, tb_one, decide_eq_false_iff_not]
      constructor
      · rintro ⟨⟨h1, h2⟩, h3⟩
        refine ⟨h1, fun g hg => ?_⟩
        by_cases hgk : g = k
        · subst hgk; exact fun h => h3 h.2.2
        · exact h2 g (by omega)
      · rintro ⟨h1, h2⟩
        exact ⟨⟨h1, fun g hg => h2 g (by omega)⟩, fun h => h2 k (by omega) ⟨c.1, c.2, h⟩⟩
    · rw [if_neg c, ih]
      constructor
      · rintro ⟨h1, h2⟩
        refine ⟨h1, fun g hg => ?_⟩
        by_cases hgk : g = k
        · subst hgk; exact fun h => c ⟨h.1, h.2.1⟩
        · exact h2 g (by omega)
      · rintro ⟨h1, h2⟩
        exact ⟨h1, fun g hg => h2 g (by omega)⟩
section
variable {M : ModelV} {v : HouseV}
theorem MV_self (hr : RelM (Model_now M) v) (hn : WFn v) (hw : WFG v) (hp : PhM M v (hF v)) : MV M v (House_phases v) := ⟨hr, hn, hw, hw, hp⟩
theorem plm (hr : RelM (Model_now M) v) (hn : WFn v) (hw : WFG v) (hp : PhM M v (hF v)) {g t : Nat} (hg : g < hG v) (ht : t < 2147483648) : Mod_place (I (g : Int)) (I (t : Int)) M = some (I (place v g t : Int)) := pl_m (MV_self hr hn hw hp) hg ht
theorem seenm (hr : RelM (Model_now M) v) (hn : WFn v) (hw : WFG v) (hp : PhM M v (hF v)) {t : Nat} (ht : t < 2147483648) : Mod_seenAt (I (t : Int)) M = some (I (seen v t : Int)) := seenAt_m hr hn hw hp ht
theorem reach_loop (hr : RelM (Model_now M) v) (hn : WFn v) (hw : WFG v) (hp : PhM M v (hF v)) {r t : Nat} (hrr : r < hR v) (ht : t < 2147483646) : ∀ (q k n : Nat), hG v = k + q → q < n → Mod_reachFrom_14 (I (r : Int)) (I (t : Int)) M n (I (rf v r t k : Int)) (I (k : Int)) = some (I (sdf (rf v r t (hG v)) (seen v (t + 1)) : Int)) := by
  have hG4 : hG v ≤ 4 := hn.2.2.2.2.2.2.1
  have hR12 : hR v ≤ 12 := hn.2.2.1
  intro q
  induction q with
  | zero =>
    intro k n hk hm
    obtain ⟨n, rfl⟩ : ∃ q, n = q + 1 := ⟨n - 1, by omega⟩
    rw [Mod_reachFrom_14, guards_m hr hn, bind_s, if_pos (I_le_t (by omega) (by omega) (by omega)), I_succ, seenm hr hn hw hp (by omega), bind_s, I_andn, show k = hG v by omega]
  | succ q ih =>
    intro k n hk hm
    obtain ⟨n, rfl⟩ : ∃ q, n = q + 1 := ⟨n - 1, by omega⟩
    have hh := ih (k + 1) n (by omega) (by omega)
    rw [rf] at hh
    have p1 := place_lt (hw k (by omega)) t
    have p2 := place_lt (hw k (by omega)) (t + 1)
    have no : Mod_reachFrom_55 (I (r : Int)) (I (t : Int)) M (fun (x3 : Int32) (x4 : Int32) => Mod_reachFrom_14 (I (r : Int)) (I (t : Int)) M n x3 x4) (I (rf v r t k : Int)) (I (k : Int)) (I (place v k t : Int)) = Mod_reachFrom_14 (I (r : Int)) (I (t : Int)) M n (I (rf v r t k : Int)) (I ((k + 1 : Nat) : Int)) := by
      unfold Mod_reachFrom_55 Mod_reachFrom_56
      rw [if_pos rfl, nmL_e, nmL_e, Int32.and_neg_one, I_succ]
    rw [Mod_reachFrom_14, guards_m hr hn, bind_s, if_neg (I_le_f (by omega) (by omega) (by omega)), plm hr hn hw hp (by omega) (by omega), bind_s]
    by_cases c1 : place v k t = r
    · rw [if_neg (fun h => h.1 c1)] at hh
      rw [if_pos (by rw [c1]), no]
      exact hh
    · rw [if_neg (I_ne (by omega) (by omega) (by omega) (by omega) (by omega)), I_succ, plm hr hn hw hp (by omega) (by omega), bind_s]
      by_cases c2 : place v k (t + 1) = r
      · rw [if_pos ⟨c1, c2⟩] at hh
        rw [if_pos (by rw [c2])]
        unfold Mod_reachFrom_56
        rw [if_neg (by decide : ¬ (1 : Int32) = 0), nmL_e, nmL_e, I_shl _ (by omega), I_andn, I_succ]
        exact hh
      · rw [if_neg (fun h => c2 h.2)] at hh
        rw [if_neg (I_ne (by omega) (by omega) (by omega) (by omega) (by omega)), no]
        exact hh
theorem reach_m (hr : RelM (Model_now M) v) (hn : WFn v) (hw : WFG v) (hp : PhM M v (hF v)) (hj : ∀ r, r < hR v → Model_joined M r = I (jm v r : Int)) {r t : Nat} (hrr : r < hR v) (ht : t < 2147483646) : Mod_reachFrom (I (r : Int)) (I (t : Int)) M = some (I (sdf (rf v r t (hG v)) (seen v (t + 1)) : Int)) := by
  have hG4 : hG v ≤ 4 := hn.2.2.2.2.2.2.1
  have hR12 : hR v ≤ 12 := hn.2.2.1
  unfold Mod_reachFrom
  rw [gd_I (by omega) (by omega) (by omega), nmL_e, I_clamp r (by omega), hj r hrr, I_shl _ (by omega), I_or]
  exact reach_loop hr hn hw hp hrr ht (hG v) 0 FU (by omega) (by unfold FU; omega)
theorem nx_model (hd : WFd v) (hw : WFG v) {t A : Nat} (hA : A < 2 ^ hR v) : ors (fun r => bif A.testBit r then sdf (rf v r t (hG v)) (seen v (t + 1)) else 0) (hR v) = nx v t A := by
  apply nat_ext
  intro s
  rw [Bool.eq_iff_iff, ors_bit, nx_bit]
  constructor
  · rintro ⟨r, hr, h⟩
    cases hAr : A.testBit r
    · rw [hAr, bif_f, Nat.zero_testBit] at h; cases h
    · rw [hAr, bif_t, sdf_iff, rf_bit] at h
      obtain ⟨⟨h1, h2⟩, h3⟩ := h
      refine ⟨?_, h3⟩
      by_cases hrs : r = s
      · subst hrs; exact Or.inl hAr
      · rcases h1 with h1 | h1
        · refine Or.inr ⟨r, hr, hAr, h1, ?_⟩
          cases hb : (barr v t r).testBit s
          · rfl
          · rw [barr_bit] at hb
            obtain ⟨g, hg, q1, q2⟩ := hb
            exact absurd ⟨by rw [q2]; exact fun h => hrs h.symm, q1, q2⟩ (h2 g hg)
        · exact absurd h1 hrs
  · rintro ⟨h1 | ⟨r, hr, hAr, h1, h2⟩, h3⟩
    · refine ⟨s, bitlt hA h1, ?_⟩
      rw [h1, bif_t, sdf_iff, rf_bit]
      exact ⟨⟨Or.inr rfl, fun g hg h => h.1 h.2.2⟩, h3⟩
    · refine ⟨r, hr, ?_⟩
      rw [hAr, bif_t, sdf_iff, rf_bit]
      refine ⟨⟨Or.inl h1, fun g hg h => ?_⟩, h3⟩
      have : (barr v t r).testBit s = true := (barr_bit v t r s).mpr ⟨g, hg, h.2.1, h.2.2⟩
      rw [h2] at this
      cases this
theorem nextRooms_loop (hr : RelM (Model_now M) v) (hn : WFn v) (hd : WFd v) (hw : WFG v) (hp : PhM M v (hF v)) (hj : ∀ r, r < hR v → Model_joined M r = I (jm v r : Int)) {t A : Nat} (ht : t < 2147483646) (hA : A < 2 ^ hR v) : ∀ (q k n : Nat), hR v = k + q → q < n → Mod_nextRooms_5 (I (A : Int)) (I (t : Int)) M n (I ((ors (fun r => bif A.testBit r then sdf (rf v r t (hG v)) (seen v (t + 1)) else 0) k : Nat) : Int)) (I (k : Int)) = some (I (nx v t A : Int)) := by
  have hR12 : hR v ≤ 12 := hn.2.2.1
  have hp12 := pow31 hR12
  intro q
  induction q with
  | zero =>
    intro k n hk hm
    obtain ⟨n, rfl⟩ : ∃ q, n = q + 1 := ⟨n - 1, by omega⟩
    rw [Mod_nextRooms_5, rooms_m hr hn, bind_s, if_pos (I_le_t (by omega) (by omega) (by omega)), ← nx_model hd hw hA, show k = hR v by omega]
  | succ q ih =>
    intro k n hk hm
    obtain ⟨n, rfl⟩ : ∃ q, n = q + 1 := ⟨n - 1, by omega⟩
    have hh := ih (k + 1) n (by omega) (by omega)
    rw [ors] at hh
    rw [Mod_nextRooms_5, rooms_m hr hn, bind_s, if_neg (I_le_f (by omega) (by omega) (by omega)), modhas_s (by omega) (by omega), bind_s]
    cases hb1 : A.testBit k
    · rw [hb1, bif_f, Nat.or_zero] at hh
      rw [bif_f, nmL_e, nmL_e, Int32.or_zero, I_succ]
      exact hh
    · rw [hb1, bif_t] at hh
      rw [bif_t, reach_m hr hn hw hp hj (by omega) ht, bind_s, nmL_e, nmL_e, I_or, I_succ]
      exact hh
theorem nextRooms_m (hr : RelM (Model_now M) v) (hn : WFn v) (hd : WFd v) (hw : WFG v) (hp : PhM M v (hF v)) (hj : ∀ r, r < hR v → Model_joined M r = I (jm v r : Int)) {t A : Nat} (ht : t < 2147483646) (hA : A < 2 ^ hR v) : Mod_nextRooms (I (A : Int)) (I (t : Int)) M = some (I (nx v t A : Int)) := by
  have hR12 : hR v ≤ 12 := hn.2.2.1
  unfold Mod_nextRooms
  exact nextRooms_loop hr hn hd hw hp hj ht hA (hR v) 0 FU (by omega) (by unfold FU; omega)
end
end NEXT
