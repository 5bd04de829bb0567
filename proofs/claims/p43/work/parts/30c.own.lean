section OWNC
variable {o : OwnV} {nd nr nw : Nat} {D R W : RowsT} {F : Nat → Int32} {v : HouseV}
/-- the rows of the rooms hold the limits -/
def RC (o : OwnV) (nr : Nat) (R : RowsT) (v : HouseV) : Prop := Own_rooms o = I (hR v : Int) ∧ nr = hR v ∧ R.1 = hR v ∧ 1 ≤ hR v ∧ hR v ≤ 6 ∧ ∀ r, r < hR v → R.2.1 r = 5 ∧ R.2.2 r 0 = I (hL v r : Int) ∧ hL v r ≤ 99
theorem olate_s (h : OW o nw W F v) (hr : RC o nr R v) {r : Nat} (hrr : r < hR v) : Own_late (I (r : Int)) o nr R nw W F = some (late v r) := by
  obtain ⟨w, e1, e2⟩ := ogap_s h (r := r) (by have := hr.2.2.2.2.1; omega)
  have hb := gap_b12 h r
  obtain ⟨a1, a2, a3, a4, a5, a6⟩ := hr
  obtain ⟨b1, b2, b3⟩ := a6 r hrr
  unfold Own_late late
  rw [gd_d ⟨by omega, by omega⟩, e1, bind_s, gd_t (by decide), cl0, e2]
  by_cases c : gapC (Sg v r) (cyc v) = -1
  · rw [if_pos (show I (gapC (Sg v r) (cyc v)) < 0 from I_lt_t (b := 0) (by omega) (by omega) (by omega)), decide_eq_true c, Bool.true_or]
  · rw [if_neg (show ¬ I (gapC (Sg v r) (cyc v)) < 0 from I_lt_f (b := 0) (by omega) (by omega) (by omega)), gd_d ⟨by omega, by omega⟩, bind_s, gd_I (by omega) (by omega) (by omega), I_clamp r (by omega), gd_d (by omega), gd_d (by omega), b1, gd_t (by decide), e2, b2, decide_eq_false c, Bool.false_or]
    by_cases d : (hL v r : Int) < gapC (Sg v r) (cyc v)
    · rw [if_neg (I_le_f (by omega) (by omega) (by omega)), decide_eq_true d]
    · rw [if_pos (I_le_t (by omega) (by omega) (by omega)), decide_eq_false d]
theorem olates_loop (h : OW o nw W F v) (hr : RC o nr R v) : ∀ (q k m : Nat), hR v = k + q → q < m → Own_lates_4 o nr R nw W F m (I ((cnt (late v) k : Nat) : Int)) (I (k : Int)) (26 * k) (52 * k) = some (I ((cnt (late v) (hR v) : Nat) : Int)) := by
  have a1 := hr.1
  have a5 := hr.2.2.2.2.1
  intro q
  induction q with
  | zero =>
    intro k m hk hm
    obtain ⟨m, rfl⟩ : ∃ q, m = q + 1 := ⟨m - 1, by omega⟩
    rw [Own_lates_4, a1, if_pos (I_le_t (by omega) (by omega) (by omega)), show k = hR v by omega]
  | succ q ih =>
    intro k m hk hm
    obtain ⟨m, rfl⟩ : ∃ q, m = q + 1 := ⟨m - 1, by omega⟩
    have hh := ih (k + 1) m (by omega) (by omega)
    rw [cnt, show 26 * (k + 1) = 26 * k + 26 by omega, show 52 * (k + 1) = 52 * k + 52 by omega] at hh
    rw [Own_lates_4, a1, if_neg (I_le_f (by omega) (by omega) (by omega)), gd_d ⟨by omega, by omega⟩, olate_s h hr (by omega), bind_s]
    cases hS : late v k
    · rw [hS, bif_f, Nat.add_zero] at hh
      rw [bif_f, nmL_e, nmL_e, I_succ, I_a0]
      exact hh
    · rw [hS, bif_t] at hh
      rw [bif_t, nmL_e, nmL_e, I_succ, I_succ]
      exact hh
theorem olates_s (h : OW o nw W F v) (hr : RC o nr R v) : Own_lates o nr R nw W F = some (I ((cnt (late v) (hR v) : Nat) : Int)) := by
  unfold Own_lates
  exact olates_loop h hr (hR v) 0 FU (by omega) (by unfold FU; have := hr.2.2.2.2.1; omega)
theorem oworst_loop (h : OW o nw W F v) (hr : Own_rooms o = I (hR v : Int)) (h6 : hR v ≤ 6) : ∀ (q k m : Nat), hR v = k + q → q < m → Own_worst_4 o nw W F m (I (maxTo (fun r => gapC (Sg v r) (cyc v)) k)) (I (k : Int)) (13 * k) (26 * k) = some (I (worst v)) := by
  have hb : ∀ k, 0 ≤ maxTo (fun r => gapC (Sg v r) (cyc v)) k ∧ maxTo (fun r => gapC (Sg v r) (cyc v)) k ≤ 12 := fun k => maxTo_b (by omega) fun i _ => (gap_b12 h i).2
  intro q
  induction q with
  | zero =>
    intro k m hk hm
    obtain ⟨m, rfl⟩ : ∃ q, m = q + 1 := ⟨m - 1, by omega⟩
    rw [Own_worst_4, hr, if_pos (I_le_t (by omega) (by omega) (by omega)), show k = hR v by omega]
    rfl
  | succ q ih =>
    intro k m hk hm
    obtain ⟨m, rfl⟩ : ∃ q, m = q + 1 := ⟨m - 1, by omega⟩
    have hh := ih (k + 1) m (by omega) (by omega)
    rw [maxTo, show 13 * (k + 1) = 13 * k + 13 by omega, show 26 * (k + 1) = 26 * k + 26 by omega] at hh
    obtain ⟨w, e1, e2⟩ := ogap_s h (r := k) (by omega)
    have g1 := gap_b12 h k
    have g2 := hb k
    rw [Own_worst_4, hr, if_neg (I_le_f (by omega) (by omega) (by omega)), gd_d ⟨by omega, by omega⟩, e1, bind_s, gd_t (by decide), nmL_e, nmL_e, cl0, e2, I_succ, imax_I (by omega) (by omega) (by omega) (by omega)]
    exact hh
theorem oworst_s (h : OW o nw W F v) (hr : Own_rooms o = I (hR v : Int)) (h6 : hR v ≤ 6) : Own_worst o nw W F = some (I (worst v)) := by
  unfold Own_worst
  exact oworst_loop h hr h6 (hR v) 0 FU (by omega) (by unfold FU; omega)
theorem plI_eq (h : OW o nw W F v) {a b s t : Nat} (ha : a < hG v) (hb : b < hG v) : (I (place v a s : Int) = I (place v b t : Int)) = (place v a s = place v b t) := by
  have h1 := plC_lt h.1 (hF v) ha s
  have h2 := plC_lt h.1 (hF v) hb t
  rw [pl_e] at h1 h2
  rw [I_eq (by omega) (by omega) (by omega) (by omega)]
  exact propext ⟨fun q => by omega, fun q => by omega⟩
theorem omeets_loop (h : OW o nw W F v) {a b : Nat} (ha : a < hG v) (hb : b < hG v) : ∀ (q k m : Nat), cyc v = k + q → q < m → Own_meets_11 (I (a : Int)) (I (b : Int)) o nw W F (I (cyc v : Int)) m (I ((cnt (meetB v a b) k : Nat) : Int)) (I (k : Int)) = some (I ((cnt (meetB v a b) (cyc v) : Nat) : Int)) := by
  have hc := ow_c12 h
  intro q
  induction q with
  | zero =>
    intro k m hk hm
    obtain ⟨m, rfl⟩ : ∃ q, m = q + 1 := ⟨m - 1, by omega⟩
    rw [Own_meets_11, if_pos (I_le_t (by omega) (by omega) (by omega)), show k = cyc v by omega]
  | succ q ih =>
    intro k m hk hm
    obtain ⟨m, rfl⟩ : ∃ q, m = q + 1 := ⟨m - 1, by omega⟩
    have hh := ih (k + 1) m (by omega) (by omega)
    rw [cnt] at hh
    rw [Own_meets_11, if_neg (I_le_f (by omega) (by omega) (by omega)), L_of (by omega) (by omega), ow_at h ha (by omega), bind_s, ow_at h hb (by omega), bind_s]
    by_cases c : place v a k = place v b k
    · rw [show meetB v a b k = true from decide_eq_true c, bif_t] at hh
      rw [if_pos (by rw [c]), nmL_e, nmL_e, I_succ, I_succ]
      exact hh
    · rw [show meetB v a b k = false from decide_eq_false c, bif_f, Nat.add_zero] at hh
      rw [if_neg (by rw [plI_eq h ha hb]; exact c), nmL_e, nmL_e, I_succ, I_a0]
      exact hh
theorem omeets_s (h : OW o nw W F v) {a b : Nat} (ha : a < hG v) (hb : b < hG v) : Own_meets (I (a : Int)) (I (b : Int)) o nw W F = some (I ((cnt (meetB v a b) (cyc v) : Nat) : Int)) := by
  have hc := ow_c12 h
  unfold Own_meets
  rw [ow_cyc h, bind_s]
  exact omeets_loop h ha hb (cyc v) 0 FU (by omega) (by unfold FU; omega)
theorem opasses_loop (h : OW o nw W F v) {a b : Nat} (ha : a < hG v) (hb : b < hG v) : ∀ (q k m : Nat), cyc v = k + q → q < m → Own_passes_11 (I (a : Int)) (I (b : Int)) o nw W F (I (cyc v : Int)) m (I ((cnt (passB v a b) k : Nat) : Int)) (I (k : Int)) = some (I ((cnt (passB v a b) (cyc v) : Nat) : Int)) := by
  have hc := ow_c12 h
  intro q
  induction q with
  | zero =>
    intro k m hk hm
    obtain ⟨m, rfl⟩ : ∃ q, m = q + 1 := ⟨m - 1, by omega⟩
    rw [Own_passes_11, if_pos (I_le_t (by omega) (by omega) (by omega)), show k = cyc v by omega]
  | succ q ih =>
    intro k m hk hm
    obtain ⟨m, rfl⟩ : ∃ q, m = q + 1 := ⟨m - 1, by omega⟩
    have hh := ih (k + 1) m (by omega) (by omega)
    rw [cnt] at hh
    rw [Own_passes_11, if_neg (I_le_f (by omega) (by omega) (by omega)), I_succ, L_of (by omega) (by omega), L_of (by omega) (by omega), ow_at h ha (by omega), bind_s, ow_at h hb (by omega), bind_s]
    by_cases c : place v a k = place v b k
    · rw [show passB v a b k = false by unfold passB meetB; rw [decide_eq_true c]; rfl, bif_f, Nat.add_zero] at hh
      rw [if_pos (by rw [c]), nmL_e, nmL_e, I_a0]
      exact hh
    · rw [if_neg (by rw [plI_eq h ha hb]; exact c), bind_s, ow_at h hb (by omega), bind_s]
      by_cases c2 : place v a k = place v b (k + 1)
      · rw [if_pos (by rw [c2]), bind_s, ow_at h ha (by omega), bind_s]
        by_cases c3 : place v b k = place v a (k + 1)
        · rw [show passB v a b k = true by unfold passB meetB; rw [decide_eq_false c, decide_eq_true c2, decide_eq_true c3]; rfl, bif_t] at hh
          rw [if_pos (by rw [c3]), nmL_e, nmL_e, I_succ]
          exact hh
        · rw [show passB v a b k = false by unfold passB meetB; rw [decide_eq_false c3, Bool.and_false, Bool.and_false], bif_f, Nat.add_zero] at hh
          rw [if_neg (by rw [plI_eq h hb ha]; exact c3), nmL_e, nmL_e, I_a0]
          exact hh
      · rw [show passB v a b k = false by unfold passB meetB; rw [decide_eq_false c2, Bool.false_and, Bool.and_false], bif_f, Nat.add_zero] at hh
        rw [if_neg (by rw [plI_eq h ha hb]; exact c2), nmL_e, nmL_e, I_a0]
        exact hh
theorem opasses_s (h : OW o nw W F v) {a b : Nat} (ha : a < hG v) (hb : b < hG v) : Own_passes (I (a : Int)) (I (b : Int)) o nw W F = some (I ((cnt (passB v a b) (cyc v) : Nat) : Int)) := by
  have hc := ow_c12 h
  unfold Own_passes
  rw [ow_cyc h, bind_s]
  exact opasses_loop h ha hb (cyc v) 0 FU (by omega) (by unfold FU; omega)
theorem ocrossIn (h : OW o nw W F v) {g : Nat} {A : Int} {k4 : Int32 → Int32 → Option Int32} (hg : g < hG v) : ∀ (q j m : Nat), hG v = g + 1 + j + q → q < m → Own_crossings_16 o nw W F (I (g : Int)) k4 m (I (A + inC (fun a b => pairTo v a b 1 1 (cyc v)) g j)) (I ((g + 1 + j : Nat) : Int)) = k4 (I (A + inC (fun a b => pairTo v a b 1 1 (cyc v)) g (hG v - (g + 1)))) (I ((g + 1 : Nat) : Int)) := by
  have h1 := h.1.1
  have h4 := h.2.2.1
  intro q
  induction q with
  | zero =>
    intro j m hk hm
    obtain ⟨m, rfl⟩ : ∃ q, m = q + 1 := ⟨m - 1, by omega⟩
    rw [Own_crossings_16, h1, if_pos (I_le_t (by omega) (by omega) (by omega)), nmL_e, I_succ, show j = hG v - (g + 1) by omega]
  | succ q ih =>
    intro j m hk hm
    obtain ⟨m, rfl⟩ : ∃ q, m = q + 1 := ⟨m - 1, by omega⟩
    have hh := ih (j + 1) m (by omega) (by omega)
    rw [inC, pair_mp, ← Int.add_assoc] at hh
    rw [Own_crossings_16, h1, if_neg (I_le_f (by omega) (by omega) (by omega)), omeets_s h hg (by omega), bind_s, opasses_s h hg (by omega), bind_s, nmL_e, nmL_e, I_add, I_add, I_succ]
    exact hh
theorem ocross_loop (h : OW o nw W F v) : ∀ (q k m : Nat), hG v = k + q → q < m → Own_crossings_4 o nw W F m (I (crC (fun a b => pairTo v a b 1 1 (cyc v)) (hG v) k)) (I (k : Int)) = some (I (cross v)) := by
  have h1 := h.1.1
  have h4 := h.2.2.1
  intro q
  induction q with
  | zero =>
    intro k m hk hm
    obtain ⟨m, rfl⟩ : ∃ q, m = q + 1 := ⟨m - 1, by omega⟩
    rw [Own_crossings_4, h1, if_pos (I_le_t (by omega) (by omega) (by omega)), show k = hG v by omega, cr_eq (fun a b => pair_c v a b _ _ _) h4]
    rfl
  | succ q ih =>
    intro k m hk hm
    obtain ⟨m, rfl⟩ : ∃ q, m = q + 1 := ⟨m - 1, by omega⟩
    have hh := ih (k + 1) m (by omega) (by omega)
    rw [crC] at hh
    have hi := ocrossIn h (g := k) (A := crC (fun a b => pairTo v a b 1 1 (cyc v)) (hG v) k) (k4 := fun x1 x2 => Own_crossings_4 o nw W F m x1 x2) (by omega) (hG v - (k + 1)) 0 FU (by omega) (by unfold FU; omega)
    rw [inC, Int.add_zero] at hi
    rw [Own_crossings_4, h1, if_neg (I_le_f (by omega) (by omega) (by omega)), nmL_e, I_succ]
    exact hi.trans hh
theorem ocross_s (h : OW o nw W F v) : Own_crossings o nw W F = some (I (cross v)) := by
  unfold Own_crossings
  exact ocross_loop h (hG v) 0 FU (by omega) (by unfold FU; have := h.2.2.1; omega)
/-! guards that go through a door -/
theorem othr90 (hd : DC o nd D (hD v) (hA v) (hB v) (opn v)) (h20 : hD v ≤ 20) {d a b : Nat} (hdd : d < hD v) (ha : a < 12) (hb : b < 12) {k4 k18 : Int32 → Int32 → Option Int32} {x2 x3 : Int32} {k : Nat} (s0 : Int32) : Own_through_90 (I (d : Int)) o nd D nw W k4 k18 x2 x3 (I (k : Int)) (I (a : Int)) (I (b : Int)) s0 = k18 (s0 ||| (if b = hA v d ∧ a = hB v d then 1 else 0)) (I ((k + 1 : Nat) : Int)) := by
  obtain ⟨h1, h2, h3, h4⟩ := hd
  obtain ⟨r1, r2, r3, r4, r5, r6⟩ := h4 d hdd
  unfold Own_through_90
  rw [gd_I (by omega) (by omega) (by omega), I_clamp d (by omega), gd_d (by omega), gd_d (by omega), r1, gd_t (by decide), cl0, r2]
  by_cases c1 : b = hA v d
  · rw [if_pos (by rw [c1]), gd_t (by decide), cl1, r3]
    by_cases c2 : a = hB v d
    · rw [if_pos (by rw [c2]), if_pos ⟨c1, c2⟩, nmL_e, nmL_e, I_succ]
    · rw [if_neg (I_ne (by omega) (by omega) (by omega) (by omega) (by omega)), if_neg (fun q => c2 q.2), nmL_e, nmL_e, I_succ]
  · rw [if_neg (I_ne (by omega) (by omega) (by omega) (by omega) (by omega)), if_neg (fun q => c1 q.1), nmL_e, nmL_e, I_succ]
theorem othr18 (hd : DC o nd D (hD v) (hA v) (hB v) (opn v)) (h20 : hD v ≤ 20) (h : OW o nw W F v) {d g : Nat} (hdd : d < hD v) (hg : g < hG v) {x2 : Int32} (k4 : Int32 → Int32 → Option Int32) : ∀ (q k m : Nat), hP v g = k + q → q < m → Own_through_18 (I (d : Int)) o nd D nw W x2 (I (g : Int)) k4 m (b2i (decide (0 < cnt (eM v g (hA v d) (hB v d)) k))) (I (k : Int)) = k4 (x2 + (if thr v (hA v d) (hB v d) g = true then 1 else 0)) (I ((g + 1 : Nat) : Int)) := by
  obtain ⟨w1, w2, w3, w4⟩ := h.1
  obtain ⟨p1, p2, p3, p4⟩ := w4 g hg
  have hg4 := h.2.2.1
  obtain ⟨h1, h2, h3, h4⟩ := id hd
  obtain ⟨r1, r2, r3, r4, r5, r6⟩ := h4 d hdd
  intro q
  induction q with
  | zero =>
    intro k m hk hm
    obtain ⟨m, rfl⟩ : ∃ q, m = q + 1 := ⟨m - 1, by omega⟩
    rw [Own_through_18, gd_I (by omega) (by omega) (by omega), I_clamp g (by omega), gd_d (by omega), gd_d (by omega), p1, nI_e, if_pos (I_le_t (by omega) (by omega) (by omega)), thr_m (by omega), show k = hP v g by omega]
    cases hb : decide (0 < cnt (eM v g (hA v d) (hB v d)) (hP v g))
    · rw [if_pos (by decide), nmL_e, nmL_e, I_succ, if_neg (by decide)]
    · rw [if_neg (by decide), nmL_e, nmL_e, I_succ, if_pos rfl]
  | succ q ih =>
    intro k m hk hm
    obtain ⟨m, rfl⟩ : ∃ q, m = q + 1 := ⟨m - 1, by omega⟩
    have hh := ih (k + 1) m (by omega) (by omega)
    rw [cnt_b2i] at hh
    have hml : (k + 1) % hP v g < hP v g := Nat.mod_lt _ (by omega)
    have hmod : ((k + 1 : Nat) : Int) % (hP v g : Int) = (((k + 1) % hP v g : Nat) : Int) := by rw [← Int.natCast_emod]
    obtain ⟨y1, y2⟩ := p4 k (by omega)
    obtain ⟨z1, z2⟩ := p4 _ hml
    have e90 := fun s0 => othr90 (nw := nw) (W := W) hd h20 hdd (a := hW v g k) (b := hW v g ((k + 1) % hP v g)) y2 z2 (k4 := k4) (k18 := fun x4 x5 => Own_through_18 (I (d : Int)) o nd D nw W x2 (I (g : Int)) k4 m x4 x5) (x2 := x2) (x3 := I (g : Int)) (k := k) s0
    rw [Own_through_18, gd_I (by omega) (by omega) (by omega), I_clamp g (by omega), gd_d (by omega), gd_d (by omega), p1, nI_e, if_neg (I_le_f (by omega) (by omega) (by omega)), gd_I (by omega) (by omega) (by omega), nmL_e, gd_t (nz_I (by omega) (by omega)), I_succ, I_rem (by omega) (by omega) (by omega) (by omega), hmod, gd_I (by omega) (by omega) (by omega), nmL_e, I_clamp k (by omega), I_clamp ((k + 1) % hP v g) (by omega), y1, z1, gd_I (by omega) (by omega) (by omega), I_clamp d (by omega), gd_d (by omega), gd_d (by omega), r1, gd_t (by decide), cl0, r2]
    have e0 : ∀ b : Bool, b2i b ||| 0 = b2i b := b2i_or0
    by_cases c1 : hW v g k = hA v d
    · rw [if_pos (by rw [c1]), gd_t (by decide), cl1, r3]
      by_cases c2 : hW v g ((k + 1) % hP v g) = hB v d
      · rw [if_pos (show eM v g (hA v d) (hB v d) k = true by unfold eM edge; rw [decide_eq_true c1, decide_eq_true c2]; rfl)] at hh
        rw [if_pos (by rw [c2]), nmL_e, nmL_e, b2i_or1]
        exact hh
      · rw [if_neg (I_ne (by omega) (by omega) (by omega) (by omega) (by omega)), e90]
        have hE : eM v g (hA v d) (hB v d) k = decide (hW v g ((k + 1) % hP v g) = hA v d ∧ hW v g k = hB v d) := by
          unfold eM edge
          rw [decide_eq_false c2, Bool.and_false, Bool.false_or, Bool.decide_and, Bool.and_comm]
        rw [hE] at hh
        by_cases c3 : hW v g ((k + 1) % hP v g) = hA v d ∧ hW v g k = hB v d
        · rw [if_pos (decide_eq_true c3)] at hh
          rw [if_pos c3, b2i_or1]
          exact hh
        · rw [if_neg (by rw [decide_eq_false c3]; decide)] at hh
          rw [if_neg c3, e0]
          exact hh
    · rw [if_neg (I_ne (by omega) (by omega) (by omega) (by omega) (by omega)), e90]
      have hE : eM v g (hA v d) (hB v d) k = decide (hW v g ((k + 1) % hP v g) = hA v d ∧ hW v g k = hB v d) := by
        unfold eM edge
        rw [decide_eq_false c1, Bool.false_and, Bool.false_or, Bool.decide_and, Bool.and_comm]
      rw [hE] at hh
      by_cases c3 : hW v g ((k + 1) % hP v g) = hA v d ∧ hW v g k = hB v d
      · rw [if_pos (decide_eq_true c3)] at hh
        rw [if_pos c3, b2i_or1]
        exact hh
      · rw [if_neg (by rw [decide_eq_false c3]; decide)] at hh
        rw [if_neg c3, e0]
        exact hh
theorem othr_loop (hd : DC o nd D (hD v) (hA v) (hB v) (opn v)) (h20 : hD v ≤ 20) (h : OW o nw W F v) {d : Nat} (hdd : d < hD v) : ∀ (q k m : Nat), hG v = k + q → q < m → Own_through_4 (I (d : Int)) o nd D nw W m (I ((cnt (thr v (hA v d) (hB v d)) k : Nat) : Int)) (I (k : Int)) = some (I ((cnt (thr v (hA v d) (hB v d)) (hG v) : Nat) : Int)) := by
  have h1 := h.1.1
  have hg4 := h.2.2.1
  intro q
  induction q with
  | zero =>
    intro k m hk hm
    obtain ⟨m, rfl⟩ : ∃ q, m = q + 1 := ⟨m - 1, by omega⟩
    rw [Own_through_4, h1, if_pos (I_le_t (by omega) (by omega) (by omega)), show k = hG v by omega]
  | succ q ih =>
    intro k m hk hm
    obtain ⟨m, rfl⟩ : ∃ q, m = q + 1 := ⟨m - 1, by omega⟩
    have hh := ih (k + 1) m (by omega) (by omega)
    rw [cnt] at hh
    have hp := h.2.2.2.1.per k (by omega)
    rw [Own_through_4, h1, if_neg (I_le_f (by omega) (by omega) (by omega)), I_zero]
    refine (othr18 hd h20 h hdd (by omega) _ (hP v k) 0 FU (by omega) (by unfold FU; omega)).trans ?_
    cases hb : thr v (hA v d) (hB v d) k
    · rw [hb, bif_f, Nat.add_zero] at hh
      rw [if_neg (by decide), I_a0]
      exact hh
    · rw [hb, bif_t] at hh
      rw [if_pos rfl, I_succ]
      exact hh
theorem othrough_s (hd : DC o nd D (hD v) (hA v) (hB v) (opn v)) (h20 : hD v ≤ 20) (h : OW o nw W F v) {d : Nat} (hdd : d < hD v) : Own_through (I (d : Int)) o nd D nw W = some (I ((cnt (thr v (hA v d) (hB v d)) (hG v) : Nat) : Int)) := by
  unfold Own_through
  exact othr_loop hd h20 h hdd (hG v) 0 FU (by omega) (by unfold FU; have := h.2.2.1; omega)
end OWNC
