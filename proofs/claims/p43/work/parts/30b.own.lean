section OWNB
theorem msk_z {p : Nat → Bool} {n : Nat} : msk p n = 0 ↔ ∀ i, i < n → p i = false := by
  constructor
  · intro h i hi
    have hb := msk_bit p n i
    rw [h, Nat.zero_testBit, decide_eq_true hi, Bool.true_and] at hb
    exact hb.symm
  · intro h
    apply nat_ext
    intro i
    rw [msk_bit, Nat.zero_testBit]
    by_cases c : i < n
    · rw [h i c, Bool.and_false]
    · rw [decide_eq_false c, Bool.false_and]
theorem pl_e (v : HouseV) (g t : Nat) : plC (hP v) (hW v) (hF v) g t = place v g t := by
  unfold plC place
  rw [Nat.mod_add_mod]
theorem Sg_iff {v : HouseV} {r t : Nat} : Sg v r t = true ↔ ∃ g, g < hG v ∧ place v g t = r := seen_bit t r
theorem in_no {v : HouseV} {r t : Nat} (h : Sg v r t = false) : msk (fun g => decide (place v g t = r)) (hG v) = 0 := by
  rw [msk_z]
  intro g hg
  apply decide_eq_false
  intro e
  have := Sg_iff.mpr ⟨g, hg, e⟩
  rw [h] at this
  cases this
theorem in_yes {v : HouseV} {r t : Nat} (hG4 : hG v ≤ 4) (h : Sg v r t = true) : msk (fun g => decide (place v g t = r)) (hG v) ≠ 0 ∧ msk (fun g => decide (place v g t = r)) (hG v) < 16 := by
  constructor
  · intro e
    rw [msk_z] at e
    obtain ⟨g, hg, h2⟩ := Sg_iff.mp h
    exact of_decide_eq_false (e g hg) h2
  · exact Nat.lt_of_lt_of_le (msk_lt _ _) (Nat.pow_le_pow_right (by decide) hG4)
/-- the walks and the phases are those of the house -/
def OW (o : OwnV) (nw : Nat) (W : RowsT) (F : Nat → Int32) (v : HouseV) : Prop := WC o nw W (hG v) (hP v) (hW v) ∧ (∀ g, g < hG v → F g = I (hF v g : Int)) ∧ hG v ≤ 4 ∧ WFG v ∧ ∀ g, g < hG v → hP v g ≤ 4
variable {o : OwnV} {nw : Nat} {W : RowsT} {F : Nat → Int32} {v : HouseV}
theorem OW.f (h : OW o nw W F v) : ∀ g, g < hG v → F g = I (hF v g : Int) ∧ hF v g < 100 := fun g hg => by
  obtain ⟨h1, h2, h3, h4, h5⟩ := h
  have := (h4 g hg).2.2.2
  have := h5 g hg
  exact ⟨h2 g hg, by omega⟩
theorem ow_at (h : OW o nw W F v) {g t : Nat} (hg : g < hG v) (ht : t ≤ 2000000) : Own_at (I (g : Int)) (L (t : Int)) o nw W F = some (I (place v g t : Int)) := by
  rw [oat_s h.1 h.2.2.1 h.f hg ht, pl_e]
theorem ow_in (h : OW o nw W F v) {r t : Nat} (hr : r < 12) (ht : t ≤ 2000000) : Own_in (I (r : Int)) (L (t : Int)) o nw W F = some (I (msk (fun g => decide (place v g t = r)) (hG v) : Int)) := by
  rw [oin_s h.1 h.2.2.1 h.f hr ht, show (fun g => decide (plC (hP v) (hW v) (hF v) g t = r)) = (fun g => decide (place v g t = r)) from funext fun g => by rw [pl_e]]
theorem ow_cyc (h : OW o nw W F v) : Own_cycle o nw W = some (I (cyc v : Int)) := ocycle_s h.1 h.2.2.1
theorem ow_c12 (h : OW o nw W F v) : 1 ≤ cyc v ∧ cyc v ≤ 12 := by
  obtain ⟨h1, h2, h3, h4, h5⟩ := h
  refine ⟨cyc_pos h4, Nat.le_of_dvd (by omega) ((cycTo_iff (hG v)).mpr fun g hg => ?_)⟩
  have a := h5 g hg
  have b := (h4 g hg).2.1
  obtain e | e | e | e : hP v g = 1 ∨ hP v g = 2 ∨ hP v g = 3 ∨ hP v g = 4 := by omega
  all_goals rw [e]; decide
theorem oseen_loop (h : OW o nw W F v) {r : Nat} (hr : r < 12) : ∀ (q k m : Nat), cyc v = k + q → q < m → Own_seen_10 (I (r : Int)) o nw W F (I (cyc v : Int)) m (I ((cnt (Sg v r) k : Nat) : Int)) (I (k : Int)) = some (I ((cnt (Sg v r) (cyc v) : Nat) : Int)) := by
  have hc := ow_c12 h
  intro q
  induction q with
  | zero =>
    intro k m hk hm
    obtain ⟨m, rfl⟩ : ∃ q, m = q + 1 := ⟨m - 1, by omega⟩
    rw [Own_seen_10, if_pos (I_le_t (by omega) (by omega) (by omega)), show k = cyc v by omega]
  | succ q ih =>
    intro k m hk hm
    obtain ⟨m, rfl⟩ : ∃ q, m = q + 1 := ⟨m - 1, by omega⟩
    have hh := ih (k + 1) m (by omega) (by omega)
    rw [cnt] at hh
    rw [Own_seen_10, if_neg (I_le_f (by omega) (by omega) (by omega)), L_of (by omega) (by omega), ow_in h hr (by omega), bind_s]
    cases hS : Sg v r k
    · rw [hS, bif_f, Nat.add_zero] at hh
      rw [in_no hS, if_pos (show I ((0 : Nat) : Int) = 0 from rfl), nmL_e, nmL_e, I_succ, I_a0]
      exact hh
    · rw [hS, bif_t] at hh
      have hy := in_yes h.2.2.1 hS
      rw [if_neg (show ¬ I (msk (fun g => decide (place v g k = r)) (hG v) : Int) = 0 from I_ne (b := 0) (by omega) (by omega) (by omega) (by omega) (by omega)), nmL_e, nmL_e, I_succ, I_succ]
      exact hh
theorem oseen_s (h : OW o nw W F v) {r : Nat} (hr : r < 12) : Own_seen (I (r : Int)) o nw W F = some (I ((cnt (Sg v r) (cyc v) : Nat) : Int)) := by
  have hc := ow_c12 h
  unfold Own_seen
  rw [ow_cyc h, bind_s]
  exact oseen_loop h hr (cyc v) 0 FU (by omega) (by unfold FU; omega)
/-- one stretch from the minute t -/
theorem ogap72 (h : OW o nw W F v) {r t m0 : Nat} (hr : r < 12) (ht : t < cyc v) (h1 : Sg v r (t + m0) = true) (h2 : ∀ j, j < m0 → Sg v r (t + j) = false) (hm0 : m0 ≤ 11) {w0 : Nat → Int32} {b c s : Nat} (hb : w0 0 = I (b : Int)) (hb11 : b ≤ 11) (hc : c + 1 ≤ 13) (hs : s + 2 ≤ 26) (k34 : Int32 → (Nat → Int32) → Nat → Nat → Option (Nat → Int32)) : ∀ (q k m : Nat), m0 = k + q → q < m → Own_gap_72 (I (r : Int)) o nw W F (I (cyc v : Int)) (I (t : Int)) k34 m (I (k : Int)) w0 c s = if m0 ≤ b then k34 (I ((t + 1 : Nat) : Int)) w0 c s else k34 (I ((t + 1 : Nat) : Int)) (upd (upd (fun _ => 0) 0 (I (m0 : Int))) 1 (I (t : Int))) (c + 1) (s + 2) := by
  have hcy := ow_c12 h
  intro q
  induction q with
  | zero =>
    intro k m hk hm
    obtain ⟨m, rfl⟩ : ∃ q, m = q + 1 := ⟨m - 1, by omega⟩
    obtain rfl : m0 = k := by omega
    have hy := in_yes h.2.2.1 h1
    rw [Own_gap_72, I_add, ← Int.natCast_add, L_of (by omega) (by omega), ow_in h hr (by omega), bind_s, if_neg (show ¬ I (msk (fun g => decide (place v g (t + m0) = r)) (hG v) : Int) = 0 from I_ne (b := 0) (by omega) (by omega) (by omega) (by omega) (by omega)), gd_t (by decide), cl0, hb]
    by_cases c1 : m0 ≤ b
    · rw [if_pos (I_le_t (by omega) (by omega) (by omega)), if_pos c1, nmL_e, I_succ]
    · rw [if_neg (I_le_f (by omega) (by omega) (by omega)), if_neg c1, gd_d ⟨hc, hs⟩, nmL_e, gd_t (by decide), nmL_e, nmL_e, cl1, I_succ]
  | succ q ih =>
    intro k m hk hm
    obtain ⟨m, rfl⟩ : ∃ q, m = q + 1 := ⟨m - 1, by omega⟩
    rw [Own_gap_72, I_add, ← Int.natCast_add, L_of (by omega) (by omega), ow_in h hr (by omega), bind_s, in_no (h2 k (by omega)), if_pos (show I ((0 : Nat) : Int) = 0 from rfl), nmL_e, I_succ]
    exact ih (k + 1) m (by omega) (by omega)
theorem ogap34 (h : OW o nw W F v) {r : Nat} (hr : r < 12) : ∀ (q t m b c s : Nat) (w0 : Nat → Int32), cyc v = t + q → q < m → w0 0 = I (b : Int) → c ≤ 1 + b → s = 2 * c → b ≤ 11 → (∀ t' L, t' < t → Sg v r (t' + (cyc v - 1)) = true → (∀ i, i < L → Sg v r (t' + i) = false) → L ≤ b) → (∃ a, ∀ i, i < b → Sg v r (a + i) = false) → ∃ (w : Nat → Int32) (B : Nat), Own_gap_34 (I (r : Int)) o nw W F (I (cyc v : Int)) m (I (t : Int)) w0 c s = some w ∧ w 0 = I (B : Int) ∧ (∀ t' L, t' < cyc v → Sg v r (t' + (cyc v - 1)) = true → (∀ i, i < L → Sg v r (t' + i) = false) → L ≤ B) ∧ ∃ a, ∀ i, i < B → Sg v r (a + i) = false := by
  have hcy := ow_c12 h
  intro q
  induction q with
  | zero =>
    intro t m b c s w0 hk hm hb hc hs hb11 i1 i2
    obtain ⟨m, rfl⟩ : ∃ q, m = q + 1 := ⟨m - 1, by omega⟩
    rw [Own_gap_34, if_pos (I_le_t (by omega) (by omega) (by omega))]
    exact ⟨w0, b, rfl, hb, fun t' L h1 => i1 t' L (by omega), i2⟩
  | succ q ih =>
    intro t m b c s w0 hk hm hb hc hs hb11 i1 i2
    obtain ⟨m, rfl⟩ : ∃ q, m = q + 1 := ⟨m - 1, by omega⟩
    have htc : t < cyc v := by omega
    rw [Own_gap_34, if_neg (I_le_f (by omega) (by omega) (by omega)), L_of (by omega) (by omega), ow_in h hr (by omega), bind_s]
    cases hS : Sg v r t
    · rw [in_no hS, if_pos (show I ((0 : Nat) : Int) = 0 from rfl), I_add, I1, I_sub, show (t : Int) + (cyc v : Int) - 1 = ((t + (cyc v - 1) : Nat) : Int) by omega, L_of (by omega) (by omega), ow_in h hr (by omega), bind_s]
      cases hP : Sg v r (t + (cyc v - 1))
      · rw [in_no hP, if_pos Iz, nmL_e, ← I1, I_succ]
        refine ih (t + 1) m b c s w0 (by omega) (by omega) hb hc hs hb11 (fun t' L a1 a2 a3 => ?_) i2
        by_cases e : t' = t
        · rw [e, hP] at a2; cases a2
        · exact i1 t' L (by omega) a2 a3
      · have hy := in_yes h.2.2.1 hP
        rw [if_neg (show ¬ I (msk (fun g => decide (place v g (t + (cyc v - 1)) = r)) (hG v) : Int) = 0 from I_ne (b := 0) (by omega) (by omega) (by omega) (by omega) (by omega))]
        obtain ⟨m0, k1, k2⟩ := least (P := fun j => Sg v r (t + j) = true) ⟨cyc v - 1, hP⟩
        have hm0 : m0 ≤ cyc v - 1 := Nat.le_of_not_lt fun q => k2 _ q hP
        have k3 : ∀ j, j < m0 → Sg v r (t + j) = false := fun j hj => by
          cases e : Sg v r (t + j)
          · rfl
          · exact absurd e (k2 j hj)
        rw [I_zero, ogap72 h hr htc k1 k3 (by omega) hb hb11 (by omega) (by omega) _ m0 0 FU (by omega) (by unfold FU; omega)]
        have hrun : ∀ L, (∀ i, i < L → Sg v r (t + i) = false) → L ≤ m0 := fun L hL => Nat.le_of_not_lt fun q => by
          have := hL m0 q
          rw [k1] at this
          cases this
        by_cases c1 : m0 ≤ b
        · rw [if_pos c1]
          refine ih (t + 1) m b c s w0 (by omega) (by omega) hb hc hs hb11 (fun t' L a1 a2 a3 => ?_) i2
          by_cases e : t' = t
          · rw [e] at a3
            exact Nat.le_trans (hrun L a3) c1
          · exact i1 t' L (by omega) a2 a3
        · rw [if_neg c1]
          refine ih (t + 1) m m0 (c + 1) (s + 2) _ (by omega) (by omega) (by rw [upd_n (by omega), upd_i]) (by omega) (by omega) (by omega) (fun t' L a1 a2 a3 => ?_) ⟨t, k3⟩
          by_cases e : t' = t
          · rw [e] at a3
            exact hrun L a3
          · have := i1 t' L (by omega) a2 a3
            omega
    · have hy := in_yes h.2.2.1 hS
      rw [if_neg (show ¬ I (msk (fun g => decide (place v g t = r)) (hG v) : Int) = 0 from I_ne (b := 0) (by omega) (by omega) (by omega) (by omega) (by omega)), nmL_e, I_succ]
      refine ih (t + 1) m b c s w0 (by omega) (by omega) hb hc hs hb11 (fun t' L a1 a2 a3 => ?_) i2
      by_cases e : t' = t
      · cases L with
        | zero => omega
        | succ L =>
          have := a3 0 (by omega)
          rw [e, Nat.add_zero, hS] at this
          cases this
      · exact i1 t' L (by omega) a2 a3
theorem cnt_0 {p : Nat → Bool} {n : Nat} (h : cnt p n = 0) : ∀ i, i < n → p i = false := fun i hi => by
  cases e : p i
  · rfl
  · have := cnt_pos.mpr ⟨i, hi, e⟩
    omega
theorem ogap_s (h : OW o nw W F v) {r : Nat} (hr : r < 12) : ∃ w, Own_gap (I (r : Int)) o nw W F = some w ∧ w 0 = I (gapC (Sg v r) (cyc v)) := by
  have hcy := ow_c12 h
  have hcl := cnt_le (Sg v r) (cyc v)
  unfold Own_gap
  rw [ow_cyc h, bind_s, gd_d ⟨by omega, by omega⟩, gd_t (by decide), nmL_e, gd_t (by decide), nmL_e, oseen_s h hr, bind_s, cl0, cl1]
  by_cases c : cnt (Sg v r) (cyc v) = 0
  · rw [c, if_pos (show I ((0 : Nat) : Int) = 0 from rfl), gap_none (cnt_0 c)]
    exact ⟨_, rfl, by rw [upd_n (by omega), upd_i]; rfl⟩
  · rw [if_neg (show ¬ I ((cnt (Sg v r) (cyc v) : Nat) : Int) = 0 from I_ne (b := 0) (by omega) (by omega) (by omega) (by omega) (by omega)), nmL_e, I_zero]
    obtain ⟨w, B, e1, e2, e3, e4⟩ := ogap34 h hr (cyc v) 0 FU 0 (0 + 1) (0 + 2) (upd (upd (upd (fun _ => I ((0 : Nat) : Int)) 0 (-1)) 1 (-1)) 0 (I ((0 : Nat) : Int))) (by omega) (by unfold FU; omega) upd_i (by omega) (by omega) (by omega) (fun _ _ hh => absurd hh (by omega)) ⟨0, fun i hi => absurd hi (by omega)⟩
    refine ⟨w, e1, ?_⟩
    have hex : ∃ t, t < cyc v ∧ Sg v r t = true := by
      obtain ⟨i, hi, e⟩ := cnt_pos.mp (show 0 < cnt (Sg v r) (cyc v) by omega)
      exact ⟨i, hi, e⟩
    have hper : ∀ t, Sg v r (t + cyc v) = Sg v r t := fun t => Sg_per r t
    obtain ⟨G, g1, ⟨a, g2⟩, g3⟩ := gap_char hcy.1 hper hex
    obtain ⟨a', e4⟩ := e4
    have l1 := g3 a' B e4
    have l2 : G ≤ B := by
      by_cases hG : G = 0
      · omega
      · have hsh : ∀ y, Sg v r (a % cyc v + y) = Sg v r (a + y) := fun y => by
          rw [per_m hper (a % cyc v + y), per_m hper (a + y), Nat.mod_add_mod]
        apply e3 (a % cyc v) G (Nat.mod_lt _ (by omega))
        · rw [hsh]
          cases e : Sg v r (a + (cyc v - 1))
          · have := g3 (a + (cyc v - 1)) (G + 1) (fun i hi => by
              cases i with
              | zero => exact e
              | succ i =>
                rw [show a + (cyc v - 1) + (i + 1) = a + i + cyc v by omega, hper]
                exact g2 i (by omega))
            omega
          · rfl
        · intro i hi
          rw [hsh]
          exact g2 i hi
    rw [e2, g1]
    congr 1
    omega
theorem gap_b12 (h : OW o nw W F v) (r : Nat) : -1 ≤ gapC (Sg v r) (cyc v) ∧ gapC (Sg v r) (cyc v) ≤ 12 := by
  have hcy := ow_c12 h
  have := gapC_b (Sg v r) hcy.1
  omega
end OWNB
