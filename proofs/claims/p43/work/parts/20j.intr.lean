section INTR
theorem Iz : I ((0 : Nat) : Int) = (0 : Int32) := rfl
theorem Iz0 : I ((0 : Nat) : Int) = I 0 := rfl
theorem least {P : Nat → Prop} (h : ∃ k, P k) : ∃ k, P k ∧ ∀ j, j < k → ¬ P j := by
  obtain ⟨k, hk⟩ := h
  induction k using Nat.strongRecOn with
  | ind k ih =>
    by_cases c : ∃ j, j < k ∧ P j
    · obtain ⟨j, hj, hp⟩ := c
      exact ih j hj hp
    · exact ⟨k, hk, fun j hj hp => c ⟨j, hj, hp⟩⟩
/-- where an intruder can be k minutes behind m who begins in the set A -/
def SI (v : HouseV) (m A : Nat) : Nat → Nat
  | 0 => A
  | k + 1 => nx v (m + k) (SI v m A k)
theorem SI_lt {v : HouseV} (hd : WFd v) {m A : Nat} (hA : A < 2 ^ hR v) (k : Nat) : SI v m A k < 2 ^ hR v := by
  induction k with
  | zero => exact hA
  | succ k ih => exact nx_lt hd ih
theorem SI_zero {v : HouseV} {m A k : Nat} (h : SI v m A k = 0) : ∀ j, k ≤ j → SI v m A j = 0 := by
  intro j hj
  obtain ⟨d, rfl⟩ : ∃ d, j = k + d := ⟨j - k, by omega⟩
  clear hj
  induction d with
  | zero => exact h
  | succ d ih =>
    show nx v (m + (k + d)) (SI v m A (k + d)) = 0
    rw [ih, nx_zero]
def firstA (v : HouseV) (r m : Nat) : Nat := sdf (1 <<< r) (seen v m)
theorem firstA_lt {v : HouseV} {r m : Nat} (hr : r < hR v) : firstA v r m < 2 ^ hR v := sdf_lt (bit_lt hr)
theorem hiding_loop_s {v : HouseV} (hn : WFn v) (hd : WFd v) (hj : WFj v) (hw : WFG v) {r m mins A : Nat} (hm : m ≤ 1000000) (hmm : mins ≤ 100) (hA : A < 2 ^ hR v) : ∀ (q k n : Nat) (iv : IntrV), mins = k + q → q < n → ∃ iv', Intr_roomsAfter_16 (I (r : Int)) (I (m : Int)) (I (mins : Int)) v n (I (SI v m A k : Int)) (I (k : Int)) iv = some (I (SI v m A mins : Int), iv') := by
  have hR12 : hR v ≤ 12 := hn.2.2.1
  have hp := pow31 hR12
  intro q
  induction q with
  | zero =>
    intro k n iv hk hmn
    obtain ⟨n, rfl⟩ : ∃ q, n = q + 1 := ⟨n - 1, by omega⟩
    rw [Intr_roomsAfter_16, if_pos (I_le_t (by omega) (by omega) (by omega)), show k = mins by omega]
    exact ⟨iv, rfl⟩
  | succ q ih =>
    intro k n iv hk hmn
    obtain ⟨n, rfl⟩ : ∃ q, n = q + 1 := ⟨n - 1, by omega⟩
    have hl := SI_lt (m := m) hd hA k
    rw [Intr_roomsAfter_16, if_neg (I_le_f (by omega) (by omega) (by omega)), I0]
    by_cases c : SI v m A k = 0
    · rw [if_pos (by rw [c]; rfl), c, SI_zero c mins (by omega)]
      exact ⟨iv, rfl⟩
    · obtain ⟨iv', e, -⟩ := roomsNext_s hn hd hj hw (t := m + k) (by omega) hl iv
      rw [if_neg (I_ne (by omega) (by omega) (by omega) (by omega) (by omega)), I_add, show (m : Int) + (k : Int) = ((m + k : Nat) : Int) from rfl, e, bind_s, nmL_e, I_succ]
      exact ih (k + 1) n iv' (by omega) (by omega)
theorem roomsAfter_s {v : HouseV} (hn : WFn v) (hd : WFd v) (hj : WFj v) (hw : WFG v) {r m mins : Nat} (hr : r < hR v) (hm : m ≤ 1000000) (hmm : mins ≤ 100) (iv : IntrV) : ∃ iv', Intr_roomsAfter (I (r : Int)) (I (m : Int)) (I (mins : Int)) iv v = some (I (SI v m (firstA v r m) mins : Int), iv') := by
  have hR12 : hR v ≤ 12 := hn.2.2.1
  unfold Intr_roomsAfter
  rw [roomsSeenAt_s hn hw (by omega), bind_s, nmL_e, I_shl r (by omega), I_andn]
  exact hiding_loop_s hn hd hj hw hm hmm (firstA_lt hr) mins 0 FU iv (by omega) (by unfold FU; omega)
def allA (v : HouseV) (m : Nat) : Nat := sdf (2 ^ hR v - 1) (seen v m)
theorem allA_lt (v : HouseV) (m : Nat) : allA v m < 2 ^ hR v := sdf_lt (by have := Nat.two_pow_pos (hR v); omega)
theorem allRooms_e {n : Nat} (h : n ≤ 12) : (1 <<< ((I (n : Int)) &&& 31)) - 1 = I ((2 ^ n - 1 : Nat) : Int) := by
  have := Nat.two_pow_pos n
  rw [I_shl n (by omega), I1, I_sub, Nat.one_shiftLeft, show ((2 ^ n : Nat) : Int) - 1 = ((2 ^ n - 1 : Nat) : Int) by omega]
/-- the front and the rooms visited at each minute of the cycle -/
def FV (v : HouseV) (m A : Nat) : Nat → Nat × (Nat → Nat)
  | 0 => (A, fun _ => 0)
  | k + 1 => (sdf (nx v (m + k) (FV v m A k).1) (if (m + (k + 1)) % cyc v = (m + k) % cyc v then (FV v m A k).2 ((m + k) % cyc v) ||| (FV v m A k).1 else (FV v m A k).2 ((m + (k + 1)) % cyc v)), fun p => if p = (m + k) % cyc v then (FV v m A k).2 p ||| (FV v m A k).1 else (FV v m A k).2 p)
theorem FV_1 (v : HouseV) (m A k : Nat) : (FV v m A (k + 1)).1 = sdf (nx v (m + k) (FV v m A k).1) ((FV v m A (k + 1)).2 ((m + (k + 1)) % cyc v)) := by
  show sdf _ _ = sdf _ (if _ then _ else _)
  by_cases c : (m + (k + 1)) % cyc v = (m + k) % cyc v
  · rw [if_pos c, if_pos c, c]
  · rw [if_neg c, if_neg c]
theorem FV_2 (v : HouseV) (m A k p : Nat) : (FV v m A (k + 1)).2 p = if p = (m + k) % cyc v then (FV v m A k).2 p ||| (FV v m A k).1 else (FV v m A k).2 p := rfl
theorem nx_mono {v : HouseV} {t A B : Nat} (h : ∀ i, A.testBit i = true → B.testBit i = true) {s : Nat} (hs : (nx v t A).testBit s = true) : (nx v t B).testBit s = true := by
  rw [nx_bit] at hs ⊢
  obtain ⟨h1 | ⟨r, hr, h1, h2⟩, h3⟩ := hs
  · exact ⟨Or.inl (h s h1), h3⟩
  · exact ⟨Or.inr ⟨r, hr, h r h1, h2⟩, h3⟩
theorem FV_sub (v : HouseV) (m A k : Nat) : ∀ s, (FV v m A k).1.testBit s = true → (SI v m A k).testBit s = true := by
  induction k with
  | zero => exact fun s h => h
  | succ k ih =>
    intro s h
    rw [FV_1, sdf_iff] at h
    exact nx_mono ih h.1
theorem FV_lt {v : HouseV} (hd : WFd v) {m A : Nat} (hA : A < 2 ^ hR v) (k : Nat) : (FV v m A k).1 < 2 ^ hR v ∧ ∀ p, (FV v m A k).2 p < 2 ^ hR v := by
  induction k with
  | zero => exact ⟨hA, fun p => Nat.two_pow_pos _⟩
  | succ k ih =>
    refine ⟨by rw [FV_1]; exact sdf_lt (nx_lt hd ih.1), fun p => ?_⟩
    rw [FV_2]
    split
    · exact or_lt (ih.2 p) ih.1
    · exact ih.2 p
theorem FV_zero {v : HouseV} {m A k : Nat} (h : (FV v m A k).1 = 0) : ∀ j, k ≤ j → (FV v m A j).1 = 0 := by
  intro j hj
  obtain ⟨d, rfl⟩ : ∃ d, j = k + d := ⟨j - k, by omega⟩
  clear hj
  induction d with
  | zero => exact h
  | succ d ih =>
    rw [show k + (d + 1) = (k + d) + 1 from rfl, FV_1, ih, nx_zero]
    unfold sdf
    rw [Nat.zero_and, Nat.zero_xor]
/-- visited: by a front at this minute of the cycle -/
theorem FV_vis (v : HouseV) (m A k p s : Nat) : ((FV v m A k).2 p).testBit s = true ↔ ∃ j, j < k ∧ (m + j) % cyc v = p ∧ (FV v m A j).1.testBit s = true := by
  induction k with
  | zero =>
    show (0 : Nat).testBit s = true ↔ _
    rw [Nat.zero_testBit]
    exact ⟨fun h => (by cases h), fun ⟨j, h, _⟩ => absurd h (by omega)⟩
  | succ k ih =>
    rw [FV_2]
    by_cases c : p = (m + k) % cyc v
    · rw [if_pos c, or_iff, ih]
      constructor
      · rintro (⟨j, h1, h2, h3⟩ | h)
        · exact ⟨j, by omega, h2, h3⟩
        · exact ⟨k, by omega, c.symm, h⟩
      · rintro ⟨j, h1, h2, h3⟩
        by_cases hjk : j = k
        · subst hjk; exact Or.inr h3
        · exact Or.inl ⟨j, by omega, h2, h3⟩
    · rw [if_neg c, ih]
      constructor
      · rintro ⟨j, h1, h2, h3⟩
        exact ⟨j, by omega, h2, h3⟩
      · rintro ⟨j, h1, h2, h3⟩
        by_cases hjk : j = k
        · subst hjk; exact absurd h2.symm c
        · exact ⟨j, by omega, h2, h3⟩
theorem place_mod (v : HouseV) {g : Nat} (hg : g < hG v) (t : Nat) : place v g t = place v g (t % cyc v) := by
  obtain ⟨k, hk⟩ : hP v g ∣ cyc v := cycTo_per hg
  have e : t = t % cyc v + cyc v * (t / cyc v) := (Nat.mod_add_div t (cyc v)).symm
  have : t % hP v g = t % cyc v % hP v g := by
    rw [Nat.mod_mod_of_dvd]
    exact ⟨k, hk⟩
  unfold place
  rw [this]
theorem nx_per {v : HouseV} {s t : Nat} (h : s % cyc v = t % cyc v) (A : Nat) : nx v s A = nx v t A := by
  have h1 : ∀ g, g < hG v → place v g s = place v g t := fun g hg => by rw [place_mod v hg s, place_mod v hg t, h]
  have h2 : ∀ g, g < hG v → place v g (s + 1) = place v g (t + 1) := fun g hg => by
    rw [place_mod v hg (s + 1), place_mod v hg (t + 1)]
    congr 1
    rw [← Nat.mod_add_mod, h, Nat.mod_add_mod]
  have e1 : seen v (s + 1) = seen v (t + 1) := ors_congr fun g hg => by rw [h2 g hg]
  have e2 : ∀ r, barr v s r = barr v t r := fun r => ors_congr fun g hg => by rw [h1 g hg, h2 g hg]
  unfold nx
  rw [e1]
  congr 2
  exact ors_congr fun r _ => by rw [e2]
/-- whoever can be there was there, or is there now, at this minute of the cycle -/
theorem SI_vis {v : HouseV} (hd : WFd v) {m A : Nat} (hA : A < 2 ^ hR v) : ∀ k s, (SI v m A k).testBit s = true → ∃ j, j ≤ k ∧ (m + j) % cyc v = (m + k) % cyc v ∧ (FV v m A j).1.testBit s = true := by
  intro k
  induction k with
  | zero => exact fun s h => ⟨0, Nat.le_refl 0, rfl, h⟩
  | succ k ih =>
    intro s h
    have key : ∀ r, (SI v m A k).testBit r = true → (nx v (m + k) (1 <<< r)).testBit s = true → ∃ j, j ≤ k + 1 ∧ (m + j) % cyc v = (m + (k + 1)) % cyc v ∧ (FV v m A j).1.testBit s = true := by
      intro r hr hs
      obtain ⟨j, j1, j2, j3⟩ := ih r hr
      rw [← nx_per j2] at hs
      have h1 : (nx v (m + j) (FV v m A j).1).testBit s = true := nx_mono (fun i hi => by
        rw [tb_one, decide_eq_true_iff] at hi
        rw [← hi]; exact j3) hs
      have h2 : (m + (j + 1)) % cyc v = (m + (k + 1)) % cyc v := by
        rw [← Nat.add_assoc, ← Nat.add_assoc, ← Nat.mod_add_mod, j2, Nat.mod_add_mod]
      cases hv : ((FV v m A (j + 1)).2 ((m + (j + 1)) % cyc v)).testBit s
      · exact ⟨j + 1, by omega, h2, by rw [FV_1, sdf_iff]; exact ⟨h1, hv⟩⟩
      · rw [FV_vis] at hv
        obtain ⟨i, i1, i2, i3⟩ := hv
        exact ⟨i, by omega, i2.trans h2, i3⟩
    have h' := h
    rw [SI, nx_bit] at h'
    obtain ⟨h1 | ⟨r, hr, h1, h2, h4⟩, h3⟩ := h'
    · refine key s h1 ?_
      rw [nx_bit]
      exact ⟨Or.inl (by rw [tb_one]; exact decide_eq_true rfl), h3⟩
    · refine key r h1 ?_
      rw [nx_bit]
      exact ⟨Or.inr ⟨r, hr, by rw [tb_one]; exact decide_eq_true rfl, h2, h4⟩, h3⟩
def sumN (f : Nat → Nat) : Nat → Nat
  | 0 => 0
  | n + 1 => sumN f n + f n
theorem sumN_le {f : Nat → Nat} {B : Nat} (h : ∀ i, f i ≤ B) (n : Nat) : sumN f n ≤ n * B := by
  induction n with
  | zero => exact Nat.zero_le _
  | succ n ih => unfold sumN; have := h n; rw [Nat.succ_mul]; omega
theorem sumN_upd {f g : Nat → Nat} {p n : Nat} (hp : p < n) (h : ∀ i, i ≠ p → g i = f i) (hlt : f p + 1 ≤ g p) : sumN f n + 1 ≤ sumN g n := by
  induction n with
  | zero => omega
  | succ n ih =>
    unfold sumN
    by_cases c : p = n
    · subst c
      have : sumN f p = sumN g p := by
        have : ∀ k, k ≤ p → sumN f k = sumN g k := by
          intro k
          induction k with
          | zero => exact fun _ => rfl
          | succ k ihk => intro hk; unfold sumN; rw [ihk (by omega), h k (by omega)]
        exact this p (Nat.le_refl p)
      omega
    · have := ih (by omega)
      rw [h n (fun e => c e.symm)]
      omega
theorem cnt_mono {p q : Nat → Bool} (h : ∀ i, p i = true → q i = true) (n : Nat) : cnt p n ≤ cnt q n := by
  induction n with
  | zero => exact Nat.le_refl 0
  | succ n ih =>
    unfold cnt
    cases hp : p n
    · rw [bif_f]; omega
    · rw [h n hp, bif_t]; omega
theorem cnt_more {p q : Nat → Bool} {i n : Nat} (h : ∀ i, p i = true → q i = true) (hi : i < n) (h1 : p i = false) (h2 : q i = true) : cnt p n + 1 ≤ cnt q n := by
  induction n with
  | zero => omega
  | succ n ih =>
    unfold cnt
    by_cases c : i = n
    · subst c
      rw [h1, h2, bif_f, bif_t]
      have := cnt_mono h i
      omega
    · have := ih (by omega)
      cases hp : p n
      · rw [bif_f]; omega
      · rw [h n hp, bif_t]; omega
def visits (v : HouseV) (m A k : Nat) : Nat := sumN (fun p => cnt ((FV v m A k).2 p).testBit (hR v)) (cyc v)
theorem visits_step {v : HouseV} (hd : WFd v) (hw : WFG v) {m A k : Nat} (hA : A < 2 ^ hR v) (h : (FV v m A k).1 ≠ 0) : visits v m A k + 1 ≤ visits v m A (k + 1) := by
  have hc := cyc_pos hw
  unfold visits
  refine sumN_upd (p := (m + k) % cyc v) (Nat.mod_lt _ (by omega)) (fun i hi => by rw [FV_2, if_neg hi]) ?_
  rw [FV_2, if_pos rfl]
  obtain ⟨s, hs⟩ := Nat.exists_testBit_of_ne_zero h
  refine cnt_more (i := s) (fun i hi => (or_iff _ _ _).mpr (Or.inl hi)) (bitlt (FV_lt hd hA k).1 hs) ?_ ((or_iff _ _ _).mpr (Or.inr hs))
  cases k with
  | zero => exact Nat.zero_testBit s
  | succ k =>
    rw [FV_1, sdf_iff] at hs
    exact hs.2
theorem visits_le {v : HouseV} (m A k : Nat) : visits v m A k ≤ cyc v * hR v := sumN_le (fun p => cnt_le _ _) _
theorem visits_k {v : HouseV} (hd : WFd v) (hw : WFG v) {m A : Nat} (hA : A < 2 ^ hR v) : ∀ k, (∀ j, j < k → (FV v m A j).1 ≠ 0) → k ≤ visits v m A k := by
  intro k
  induction k with
  | zero => exact fun _ => Nat.zero_le _
  | succ k ih =>
    intro h
    have := ih fun j hj => h j (by omega)
    have := visits_step hd hw (m := m) hA (h k (by omega))
    omega
theorem FV_end {v : HouseV} (hd : WFd v) (hw : WFG v) {m A k : Nat} (hA : A < 2 ^ hR v) (h : ∀ j, j < k → (FV v m A j).1 ≠ 0) : k ≤ cyc v * hR v := Nat.le_trans (visits_k hd hw hA k h) (visits_le m A k)
/-- the first arrival: what both find -/
def ArrIs (v : HouseV) (m A to : Nat) (res : Int) : Prop := (∃ k, (SI v m A k).testBit to = true ∧ (∀ j, j < k → (SI v m A j).testBit to = false) ∧ res = m + k) ∨ ((∀ k, (SI v m A k).testBit to = false) ∧ res = -1)
theorem arr_ex (v : HouseV) (m A to : Nat) : ∃ res, ArrIs v m A to res := by
  by_cases c : ∃ k, (SI v m A k).testBit to = true
  · obtain ⟨k, h1, h2⟩ := least c
    exact ⟨_, Or.inl ⟨k, h1, fun j hj => by cases h : (SI v m A j).testBit to; rfl; exact absurd h (h2 j hj), rfl⟩⟩
  · exact ⟨_, Or.inr ⟨fun k => by cases h : (SI v m A k).testBit to; rfl; exact absurd ⟨k, h⟩ c, rfl⟩⟩
theorem arr_F {v : HouseV} (hd : WFd v) {m A to k : Nat} (hA : A < 2 ^ hR v) (h1 : (SI v m A k).testBit to = true) (h2 : ∀ j, j < k → (SI v m A j).testBit to = false) : (FV v m A k).1.testBit to = true ∧ (∀ j, j < k → (FV v m A j).1.testBit to = false) ∧ ∀ j, j ≤ k → (FV v m A j).1 ≠ 0 := by
  have hF : (FV v m A k).1.testBit to = true := by
    obtain ⟨j, j1, -, j3⟩ := SI_vis hd hA k to h1
    by_cases c : j = k
    · subst c; exact j3
    · have := FV_sub v m A j to j3
      rw [h2 j (by omega)] at this
      cases this
  refine ⟨hF, fun j hj => ?_, fun j hj h => ?_⟩
  · cases h : (FV v m A j).1.testBit to
    · rfl
    · have := FV_sub v m A j to h
      rw [h2 j hj] at this
      cases this
  · rw [FV_zero h k hj, Nat.zero_testBit] at hF
    cases hF
theorem arrival_loop_s {v : HouseV} (hn : WFn v) (hd : WFd v) (hj : WFj v) (hw : WFG v) {x2 : Int32} {to m A N : Nat} (hto : to < 12) (hm : m ≤ 1000000) (hA : A < 2 ^ hR v) (hN : N ≤ 30240) (hbe : ∀ j, j < N → (FV v m A j).1 ≠ 0 ∧ (FV v m A j).1.testBit to = false) (hen : (FV v m A N).1 = 0 ∨ (FV v m A N).1.testBit to = true) : ∀ (q k n : Nat) (iv : IntrV), N = k + q → q < n → (∀ p, p < cyc v → Intr_visited iv p = I ((FV v m A k).2 p : Int)) → ∃ iv', Intr_firstArrival_54 x2 (I (to : Int)) (I (m : Int)) v (I (cyc v : Int)) n (I (((m + k) % cyc v : Nat) : Int)) (I ((FV v m A k).1 : Int)) (I (k : Int)) iv = some (I (if (FV v m A N).1.testBit to = true then (m : Int) + N else -1), iv') := by
  have hR12 : hR v ≤ 12 := hn.2.2.1
  have hp := pow31 hR12
  have hc1 := cyc_pos hw
  have hc2 := cyc_le hw
  intro q
  induction q with
  | zero =>
    intro k n iv hk hmn hv
    obtain ⟨n, rfl⟩ : ∃ q, n = q + 1 := ⟨n - 1, by omega⟩
    have ek : k = N := by omega
    subst ek
    have hl := (FV_lt (m := m) hd hA k).1
    rw [Intr_firstArrival_54, show (30240 : Int32) = I 30240 from rfl, if_neg (I_lt_f (by omega) (by omega) (by omega)), I0]
    by_cases c : (FV v m A k).1 = 0
    · rw [c, if_pos Iz0, Nat.zero_testBit, if_neg (by decide)]
      exact ⟨iv, rfl⟩
    · have hb : (FV v m A k).1.testBit to = true := by
        rcases hen with h | h
        · exact absurd h c
        · exact h
      rw [if_neg (I_ne (by omega) (by omega) (by omega) (by omega) (by omega)), gwhas_s (by omega) (by omega), bind_s, hb, bif_t, I_add, if_pos rfl]
      exact ⟨iv, rfl⟩
  | succ q ih =>
    intro k n iv hk hmn hv
    obtain ⟨n, rfl⟩ : ∃ q, n = q + 1 := ⟨n - 1, by omega⟩
    have hl := (FV_lt (m := m) hd hA k).1
    obtain ⟨b1, b2⟩ := hbe k (by omega)
    have hpl : (m + k) % cyc v < cyc v := Nat.mod_lt _ (by omega)
    have step : ∀ p0 : Nat, p0 = (m + (k + 1)) % cyc v → ∃ iv', Intr_firstArrival_126 x2 (I (to : Int)) (I (m : Int)) v (fun (x6 : Int32) (x7 : Int32) (x8 : Int32) (v0 : IntrV) => Intr_firstArrival_54 x2 (I (to : Int)) (I (m : Int)) v (I (cyc v : Int)) n x6 x7 x8 v0) (I (cyc v : Int)) (I ((FV v m A k).1 : Int)) (I (k : Int)) (I (p0 : Int)) (Intr_set_visited iv (upd (Intr_visited iv) ((m + k) % cyc v) (I ((FV v m A k).2 ((m + k) % cyc v) : Int) ||| I ((FV v m A k).1 : Int)))) = some (I (if (FV v m A N).1.testBit to = true then (m : Int) + N else -1), iv') := by
      intro p0 hp0
      have hp0l : p0 < cyc v := by rw [hp0]; exact Nat.mod_lt _ (by omega)
      obtain ⟨iv1, e, hvis⟩ := roomsNext_s hn hd hj hw (t := m + k) (by omega) hl (Intr_set_visited iv (upd (Intr_visited iv) ((m + k) % cyc v) (I ((FV v m A k).2 ((m + k) % cyc v) : Int) ||| I ((FV v m A k).1 : Int))))
      have hv1 : ∀ p, p < cyc v → Intr_visited iv1 p = I ((FV v m A (k + 1)).2 p : Int) := fun p hp => by
        rw [hvis]
        show upd (Intr_visited iv) _ _ p = _
        rw [FV_2, upd_e]
        by_cases c : p = (m + k) % cyc v
        · rw [if_pos c, if_pos c, I_or, c]
        · rw [if_neg c, if_neg c]; exact hv p hp
      unfold Intr_firstArrival_126
      rw [I_add, show (m : Int) + (k : Int) = ((m + k : Nat) : Int) from rfl, e, bind_s, gd_I (by omega) (by omega) (by omega), nmL_e, nmL_e, I_clamp p0 (by omega), I_succ]
      dsimp only
      rw [hv1 p0 hp0l, I_andn, hp0, ← FV_1]
      exact ih (k + 1) n iv1 (by omega) (by omega) hv1
    rw [Intr_firstArrival_54, show (30240 : Int32) = I 30240 from rfl, if_neg (I_lt_f (by omega) (by omega) (by omega)), I0, if_neg (I_ne (by omega) (by omega) (by omega) (by omega) (by omega)), gwhas_s (by omega) (by omega), bind_s, b2, bif_f, if_neg (I_lt_f (by omega) (by omega) (by omega)), show (2520 : Int32) = I 2520 from rfl, if_pos (I_lt_t (by omega) (by omega) (by omega)), gd_I (by omega) (by omega) (by omega), nmL_e, I_clamp _ (by omega), hv _ hpl, I_succ]
    have hmod : (m + (k + 1)) % cyc v = if cyc v ≤ (m + k) % cyc v + 1 then 0 else (m + k) % cyc v + 1 := by
      rw [← Nat.add_assoc, ← Nat.mod_add_mod]
      split
      · rw [show (m + k) % cyc v + 1 = cyc v by omega, Nat.mod_self]
      · exact Nat.mod_eq_of_lt (by omega)
    by_cases c : cyc v ≤ (m + k) % cyc v + 1
    · rw [if_pos (I_le_t (by omega) (by omega) (by omega))]
      rw [if_pos c] at hmod
      exact step 0 hmod.symm
    · rw [if_neg (I_le_f (by omega) (by omega) (by omega))]
      rw [if_neg c] at hmod
      exact step _ hmod.symm
theorem firstArrival_s {v : HouseV} (hn : WFn v) (hd : WFd v) (hj : WFj v) (hw : WFG v) {r to m : Nat} (hr : r < hR v) (hto : to < hR v) (hm : m ≤ 1000000) (iv : IntrV) {res : Int} (ha : ArrIs v m (firstA v r m) to res) : ∃ iv', Intr_firstArrival (I (r : Int)) (I (to : Int)) (I (m : Int)) iv v = some (I res, iv') := by
  have hR12 : hR v ≤ 12 := hn.2.2.1
  have hc1 := cyc_pos hw
  have hc2 := cyc_le hw
  have hA := firstA_lt (m := m) hr
  have hmul : cyc v * hR v ≤ 2520 * 12 := Nat.mul_le_mul hc2 hR12
  unfold Intr_firstArrival
  rw [cycleLength_s hn hw, bind_s, I1, if_neg (I_lt_f (by omega) (by omega) (by omega)), show (2520 : Int32) = I 2520 from rfl, if_pos (I_le_t (by omega) (by omega) (by omega))]
  obtain ⟨f, e, hf⟩ := fill_s (x := 0) (N := 2520) (by decide) (Intr_visited iv)
  rw [e, bind_s, nmL_e, gd_t (nz_I (by omega) (by omega)), nmL_e, I_rem (by omega) (by omega) (by omega) (by omega), show (m : Int) % (cyc v : Int) = ((m % cyc v : Nat) : Int) from rfl, roomsSeenAt_s hn hw (by omega), bind_s, nmL_e, ← I1, I_shl r (by omega), I_andn]
  have go : ∀ N, N ≤ cyc v * hR v → (∀ j, j < N → (FV v m (firstA v r m) j).1 ≠ 0 ∧ (FV v m (firstA v r m) j).1.testBit to = false) → ((FV v m (firstA v r m) N).1 = 0 ∨ (FV v m (firstA v r m) N).1.testBit to = true) → _ := fun N h1 h2 h3 => arrival_loop_s hn hd hj hw (x2 := I (r : Int)) (by omega) hm hA (by omega) h2 h3 N 0 FU (Intr_set_visited iv f) (by omega) (by unfold FU; omega) (fun p hp => hf p (by omega))
  rcases ha with ⟨k, h1, h2, rfl⟩ | ⟨h1, rfl⟩
  · obtain ⟨a1, a2, a3⟩ := arr_F hd hA h1 h2
    obtain ⟨iv', e'⟩ := go k (FV_end hd hw hA fun j hj => a3 j (by omega)) (fun j hj => ⟨a3 j (by omega), a2 j hj⟩) (Or.inr a1)
    rw [if_pos a1] at e'
    exact ⟨iv', e'⟩
  · have hne : ∃ N, (FV v m (firstA v r m) N).1 = 0 := by
      apply Classical.byContradiction
      intro hcon
      have := FV_end hd hw (k := cyc v * hR v + 1) hA fun j _ h => hcon ⟨j, h⟩
      omega
    obtain ⟨N, hN1, hN2⟩ := least hne
    have hnot : ∀ j, (FV v m (firstA v r m) j).1.testBit to = false := fun j => by
      cases h : (FV v m (firstA v r m) j).1.testBit to
      · rfl
      · have := FV_sub v m _ j to h
        rw [h1 j] at this
        cases this
    obtain ⟨iv', e'⟩ := go N (FV_end hd hw hA fun j hj => hN2 j hj) (fun j hj => ⟨hN2 j hj, hnot j⟩) (Or.inl hN1)
    rw [if_neg (by rw [hnot]; decide)] at e'
    exact ⟨iv', e'⟩
end INTR

