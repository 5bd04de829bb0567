section PAIRS
def meetB (w : HouseV) (a b t : Nat) : Bool := decide (place w a t = place w b t)
def passB (w : HouseV) (a b t : Nat) : Bool := !meetB w a b t && (decide (place w a t = place w b (t + 1)) && decide (place w b t = place w a (t + 1)))
theorem meetB_c (w : HouseV) (a b t : Nat) : meetB w a b t = meetB w b a t := by
  unfold meetB
  rw [Bool.eq_iff_iff, decide_eq_true_iff, decide_eq_true_iff]
  exact ⟨Eq.symm, Eq.symm⟩
theorem passB_c (w : HouseV) (a b t : Nat) : passB w a b t = passB w b a t := by
  unfold passB
  rw [meetB_c, Bool.and_comm (decide (place w a t = place w b (t + 1)))]
/-- what two guards add up to in the first k minutes -/
def pairTo (w : HouseV) (a b : Nat) (mt ps : Int) : Nat → Int
  | 0 => 0
  | k + 1 => pairTo w a b mt ps k + (bif meetB w a b k then mt else bif passB w a b k then ps else 0)
theorem pair_m (w : HouseV) (a b k : Nat) : pairTo w a b 1 0 k = ((cnt (meetB w a b) k : Nat) : Int) := by
  induction k with
  | zero => rfl
  | succ k ih =>
    unfold pairTo cnt
    rw [ih]
    cases meetB w a b k
    · rw [bif_f, bif_f]
      cases passB w a b k <;> simp
    · rw [bif_t, bif_t]; rfl
theorem pass_meet (w : HouseV) (a b t : Nat) (h : meetB w a b t = true) : passB w a b t = false := by
  unfold passB
  rw [h]; rfl
theorem pair_p (w : HouseV) (a b k : Nat) : pairTo w a b 0 1 k = ((cnt (passB w a b) k : Nat) : Int) := by
  induction k with
  | zero => rfl
  | succ k ih =>
    unfold pairTo cnt
    rw [ih]
    cases hm : meetB w a b k
    · rw [bif_f]
      cases passB w a b k <;> simp
    · rw [bif_t, pass_meet w a b k hm, bif_f]; rfl
theorem pair_mp (w : HouseV) (a b k : Nat) : pairTo w a b 1 1 k = ((cnt (meetB w a b) k : Nat) : Int) + ((cnt (passB w a b) k : Nat) : Int) := by
  induction k with
  | zero => rfl
  | succ k ih =>
    unfold pairTo cnt
    rw [ih]
    cases hm : meetB w a b k
    · rw [bif_f, bif_f]
      cases passB w a b k
      · rw [bif_f, bif_f]; omega
      · rw [bif_t, bif_t]; omega
    · rw [bif_t, bif_t, pass_meet w a b k hm, bif_f]; omega
theorem pair_c (w : HouseV) (a b k : Nat) (mt ps : Int) : pairTo w a b mt ps k = pairTo w b a mt ps k := by
  induction k with
  | zero => rfl
  | succ k ih =>
    unfold pairTo
    rw [ih, meetB_c, passB_c]
theorem place_eq {v : HouseV} (hn : WFn v) {a b s t : Nat} (ha : WFg v a) (hb : WFg v b) : (I (place v a s : Int) = I (place v b t : Int)) = (place v a s = place v b t) := by
  have h1 := place_lt ha s
  have h2 := place_lt hb t
  have hR12 : hR v ≤ 12 := hn.2.2.1
  rw [I_eq (by omega) (by omega) (by omega) (by omega)]
  exact propext ⟨fun h => by omega, fun h => by omega⟩
theorem countPair_loop {v : HouseV} (hn : WFn v) (hw : WFG v) {a b : Nat} {mt ps : Int} (ha : a < hG v) (hb : b < hG v) : ∀ (q k n : Nat), cyc v = k + q → q < n → House_countPair_35 (I (a : Int)) (I (b : Int)) (I mt) (I ps) v (I (cyc v : Int)) n (I (pairTo v a b mt ps k)) (I (place v a k : Int)) (I (place v b k : Int)) (I ((k + 1 : Nat) : Int)) = some (I (pairTo v a b mt ps (cyc v))) := by
  have hc2 := cyc_le hw
  intro q
  induction q with
  | zero =>
    intro k n hk hm
    obtain ⟨n, rfl⟩ : ∃ q, n = q + 1 := ⟨n - 1, by omega⟩
    rw [House_countPair_35, if_pos (I_lt_t (by omega) (by omega) (by omega)), show k = cyc v by omega]
  | succ q ih =>
    intro k n hk hm
    obtain ⟨n, rfl⟩ : ∃ q, n = q + 1 := ⟨n - 1, by omega⟩
    have hh := ih (k + 1) n (by omega) (by omega)
    rw [pairTo] at hh
    rw [House_countPair_35, if_neg (I_lt_f (by omega) (by omega) (by omega)), roomAt_s hn ha (hw a ha) (by omega), bind_s, roomAt_s hn hb (hw b hb) (by omega), bind_s]
    by_cases c : place v a k = place v b k
    · have cm : meetB v a b k = true := decide_eq_true c
      rw [cm, bif_t] at hh
      rw [if_pos (by rw [c]), nmL_e, nmL_e, I_succ, I_add]
      exact hh
    · have cm : meetB v a b k = false := decide_eq_false c
      rw [cm, bif_f] at hh
      rw [if_neg (by rw [place_eq hn (hw a ha) (hw b hb)]; exact c)]
      by_cases c1 : place v a k = place v b (k + 1)
      · rw [if_pos (by rw [c1])]
        by_cases c2 : place v b k = place v a (k + 1)
        · have cp : passB v a b k = true := by unfold passB; rw [cm, decide_eq_true c1, decide_eq_true c2]; rfl
          rw [cp, bif_t] at hh
          rw [if_pos (by rw [c2]), nmL_e, nmL_e, I_succ, I_add]
          exact hh
        · have cp : passB v a b k = false := by unfold passB; rw [decide_eq_false c2, Bool.and_false, Bool.and_false]
          rw [cp, bif_f, Int.add_zero] at hh
          rw [if_neg (by rw [place_eq hn (hw b hb) (hw a ha)]; exact c2), nmL_e, I_succ]
          exact hh
      · have cp : passB v a b k = false := by unfold passB; rw [decide_eq_false c1, Bool.false_and, Bool.and_false]
        rw [cp, bif_f, Int.add_zero] at hh
        rw [if_neg (by rw [place_eq hn (hw a ha) (hw b hb)]; exact c1), nmL_e, I_succ]
        exact hh
theorem countPair_s {v : HouseV} (hn : WFn v) (hw : WFG v) {a b : Nat} {mt ps : Int} (ha : a < hG v) (hb : b < hG v) : House_countPair (I (a : Int)) (I (b : Int)) (I mt) (I ps) v = some (I (if a = b then 0 else pairTo v a b mt ps (cyc v))) := by
  have hG4 : hG v ≤ 4 := hn.2.2.2.2.2.2.1
  have hc2 := cyc_le hw
  unfold House_countPair
  by_cases c : a = b
  · rw [if_pos (by rw [c]), if_pos c]; rfl
  · rw [if_neg (I_ne (by omega) (by omega) (by omega) (by omega) (by omega)), if_neg c, cycleLength_s hn hw, bind_s, I_zero, roomAt_s hn ha (hw a ha) (by omega), bind_s, roomAt_s hn hb (hw b hb) (by omega), bind_s]
    exact countPair_loop hn hw ha hb (cyc v) 0 FU (by omega) (by unfold FU; omega)
/-! all pairs -/
def inC (P : Nat → Nat → Int) (g : Nat) : Nat → Int
  | 0 => 0
  | k + 1 => inC P g k + P g (g + 1 + k)
def crC (P : Nat → Nat → Int) (G : Nat) : Nat → Int
  | 0 => 0
  | k + 1 => crC P G k + inC P k (G - (k + 1))
def inM (P : Nat → Nat → Int) (g : Nat) : Nat → Int
  | 0 => 0
  | k + 1 => inM P g k + P g k
def crM (P : Nat → Nat → Int) : Nat → Int
  | 0 => 0
  | k + 1 => crM P k + inM P k k
theorem cr_eq {P : Nat → Nat → Int} (hP : ∀ a b, P a b = P b a) {G : Nat} (hG : G ≤ 4) : crC P G G = crM P G := by
  have h1 := hP 0 1
  have h2 := hP 0 2
  have h3 := hP 0 3
  have h4 := hP 1 2
  have h5 := hP 1 3
  have h6 := hP 2 3
  have : G = 0 ∨ G = 1 ∨ G = 2 ∨ G = 3 ∨ G = 4 := by omega
  rcases this with rfl | rfl | rfl | rfl | rfl <;> simp only [crC, inC, crM, inM, Nat.sub_self, Nat.reduceAdd, Nat.reduceSub] <;> omega
/-- the crossings of a house -/
def cross (v : HouseV) : Int := crM (fun a b => pairTo v a b 1 1 (cyc v)) (hG v)
theorem crossIn_loop {v : HouseV} (hn : WFn v) (hw : WFG v) {g : Nat} {A : Int} {k4 : Int32 → Int32 → Option Int32} (hg : g < hG v) : ∀ (q j n : Nat), hG v = g + 1 + j + q → q < n → House_countCrossings_16 v (I (g : Int)) k4 n (I (A + inC (fun a b => pairTo v a b 1 1 (cyc v)) g j)) (I ((g + 1 + j : Nat) : Int)) = k4 (I (A + inC (fun a b => pairTo v a b 1 1 (cyc v)) g (hG v - (g + 1)))) (I ((g + 1 : Nat) : Int)) := by
  have hG4 : hG v ≤ 4 := hn.2.2.2.2.2.2.1
  have eG : House_guards v = I (hG v) := hn.2.2.2.2.2.1
  intro q
  induction q with
  | zero =>
    intro j n hk hm
    obtain ⟨n, rfl⟩ : ∃ q, n = q + 1 := ⟨n - 1, by omega⟩
    rw [House_countCrossings_16, eG, if_pos (I_le_t (by omega) (by omega) (by omega)), nmL_e, I_succ, show hG v - (g + 1) = j by omega]
  | succ q ih =>
    intro j n hk hm
    obtain ⟨n, rfl⟩ : ∃ q, n = q + 1 := ⟨n - 1, by omega⟩
    have hh := ih (j + 1) n (by omega) (by omega)
    rw [inC] at hh
    rw [House_countCrossings_16, eG, if_neg (I_le_f (by omega) (by omega) (by omega)), I1, countPair_s hn hw hg (by omega), bind_s, nmL_e, nmL_e, if_neg (by omega), ← I1, I_succ, I_add, Int.add_assoc]
    exact hh
theorem cross_loop {v : HouseV} (hn : WFn v) (hw : WFG v) : ∀ (q k n : Nat), hG v = k + q → q < n → House_countCrossings_4 v n (I (crC (fun a b => pairTo v a b 1 1 (cyc v)) (hG v) k)) (I (k : Int)) = some (I (cross v)) := by
  have hG4 : hG v ≤ 4 := hn.2.2.2.2.2.2.1
  have eG : House_guards v = I (hG v) := hn.2.2.2.2.2.1
  intro q
  induction q with
  | zero =>
    intro k n hk hm
    obtain ⟨n, rfl⟩ : ∃ q, n = q + 1 := ⟨n - 1, by omega⟩
    rw [House_countCrossings_4, eG, if_pos (I_le_t (by omega) (by omega) (by omega)), cross, ← cr_eq (fun a b => pair_c v a b _ 1 1) hG4, hk, Nat.add_zero]
  | succ q ih =>
    intro k n hk hm
    obtain ⟨n, rfl⟩ : ∃ q, n = q + 1 := ⟨n - 1, by omega⟩
    have hh := ih (k + 1) n (by omega) (by omega)
    rw [crC] at hh
    rw [House_countCrossings_4, eG, if_neg (I_le_f (by omega) (by omega) (by omega)), nmL_e, I_succ]
    have := crossIn_loop hn hw (g := k) (A := crC (fun a b => pairTo v a b 1 1 (cyc v)) (hG v) k) (k4 := fun (x1 : Int32) (x2 : Int32) => House_countCrossings_4 v n x1 x2) (by omega) (hG v - (k + 1)) 0 FU (by omega) (by unfold FU; omega)
    rw [inC, Int.add_zero, Nat.add_zero] at this
    rw [this]
    exact hh
theorem crossings_s {v : HouseV} (hn : WFn v) (hw : WFG v) : House_countCrossings v = some (I (cross v)) := by
  have hG4 : hG v ≤ 4 := hn.2.2.2.2.2.2.1
  unfold House_countCrossings
  exact cross_loop hn hw (hG v) 0 FU (by omega) (by unfold FU; omega)
/-! the model's way -/
/-- the model with the phases p on the house v -/
def MV (M : ModelV) (v : HouseV) (p : Nat → Int32) : Prop := RelM (Model_now M) v ∧ WFn v ∧ WFG v ∧ WFG (House_set_phases v p) ∧ PhM M v (hF (House_set_phases v p))
section
variable {M : ModelV} {v : HouseV} {p : Nat → Int32}
theorem pl_m (H : MV M v p) {g t : Nat} (hg : g < hG v) (ht : t < 2147483648) : Mod_place (I (g : Int)) (I (t : Int)) M = some (I (place (House_set_phases v p) g t : Int)) := place_m H.1 H.2.1 H.2.2.2.2 hg (H.2.2.1 g hg) ht
theorem meet_m (H : MV M v p) {a b t : Nat} (ha : a < hG v) (hb : b < hG v) (ht : t < 2147483648) : Mod_meet (I (a : Int)) (I (b : Int)) (I (t : Int)) M = some (meetB (House_set_phases v p) a b t) := by
  unfold Mod_meet meetB
  rw [pl_m H ha ht, bind_s, pl_m H hb ht, bind_s]
  by_cases c : place (House_set_phases v p) a t = place (House_set_phases v p) b t
  · rw [if_pos (by rw [c]), decide_eq_true c]
  · rw [if_neg (by rw [place_eq (v := House_set_phases v p) H.2.1 (H.2.2.2.1 a ha) (H.2.2.2.1 b hb)]; exact c), decide_eq_false c]
theorem passBy_m (H : MV M v p) {a b t : Nat} (ha : a < hG v) (hb : b < hG v) (ht : t < 2147483647) : Mod_passBy (I (a : Int)) (I (b : Int)) (I (t : Int)) M = some (passB (House_set_phases v p) a b t) := by
  have k22 : ∀ s : Bool, Mod_passBy_22 (I (a : Int)) (I (b : Int)) (I (t : Int)) M (b2i s) = some (!meetB (House_set_phases v p) a b t && (s && decide (place (House_set_phases v p) b (t + 1) = place (House_set_phases v p) a t))) := by
    intro s
    unfold Mod_passBy_22
    rw [meet_m H ha hb (by omega), bind_s]
    cases meetB (House_set_phases v p) a b t
    · rw [bif_f]
      cases s
      · rw [if_pos (show b2i false = 0 from rfl)]; rfl
      · rw [if_neg (by decide : ¬ b2i true = 0), I_succ, pl_m H hb (by omega), bind_s, pl_m H ha (by omega), bind_s]
        by_cases c : place (House_set_phases v p) b (t + 1) = place (House_set_phases v p) a t
        · rw [if_pos (by rw [c]), decide_eq_true c]; rfl
        · rw [if_neg (by rw [place_eq (v := House_set_phases v p) H.2.1 (H.2.2.2.1 b hb) (H.2.2.2.1 a ha)]; exact c), decide_eq_false c]; rfl
    · rw [bif_t]; rfl
  have e2 : decide (place (House_set_phases v p) b (t + 1) = place (House_set_phases v p) a t) = decide (place (House_set_phases v p) a t = place (House_set_phases v p) b (t + 1)) := decide_eq_decide.mpr ⟨Eq.symm, Eq.symm⟩
  unfold Mod_passBy passB
  rw [I_succ, pl_m H ha (by omega), bind_s, pl_m H hb (by omega), bind_s]
  by_cases c : place (House_set_phases v p) a (t + 1) = place (House_set_phases v p) b t
  · rw [if_pos (by rw [c]), show (1 : Int32) = b2i true from rfl, k22 true, e2, decide_eq_true (show place (House_set_phases v p) b t = place (House_set_phases v p) a (t + 1) from c.symm), Bool.true_and, Bool.and_true]
  · rw [if_neg (by rw [place_eq (v := House_set_phases v p) H.2.1 (H.2.2.2.1 a ha) (H.2.2.2.1 b hb)]; exact c), show (0 : Int32) = b2i false from rfl, k22 false, decide_eq_false (show ¬ place (House_set_phases v p) b t = place (House_set_phases v p) a (t + 1) from fun h => c h.symm), Bool.false_and, Bool.and_false, Bool.and_false, Bool.and_false]
theorem meetings_loop (H : MV M v p) {C : Nat} (hc : Model_cycleNow M = I (C : Int)) (hC : C ≤ 2520) {a b : Nat} (ha : a < hG v) (hb : b < hG v) : ∀ (q k n : Nat), C = k + q → q < n → Mod_meetingsOf_5 (I (a : Int)) (I (b : Int)) M n (I ((cnt (meetB (House_set_phases v p) a b) k : Nat) : Int)) (I (k : Int)) = some (I ((cnt (meetB (House_set_phases v p) a b) C : Nat) : Int)) := by
  intro q
  induction q with
  | zero =>
    intro k n hk hm
    obtain ⟨n, rfl⟩ : ∃ q, n = q + 1 := ⟨n - 1, by omega⟩
    rw [Mod_meetingsOf_5, hc, if_pos (I_le_t (by omega) (by omega) (by omega)), hk, Nat.add_zero]
  | succ q ih =>
    intro k n hk hm
    obtain ⟨n, rfl⟩ : ∃ q, n = q + 1 := ⟨n - 1, by omega⟩
    have hh := ih (k + 1) n (by omega) (by omega)
    rw [cnt] at hh
    rw [Mod_meetingsOf_5, hc, if_neg (I_le_f (by omega) (by omega) (by omega)), meet_m H ha hb (by omega), bind_s]
    cases hm : meetB (House_set_phases v p) a b k
    · rw [hm, bif_f] at hh
      rw [bif_f, nmL_e, nmL_e, I_succ, I0, I_add]
      exact hh
    · rw [hm, bif_t] at hh
      rw [bif_t, nmL_e, nmL_e, I_succ, I_succ]
      exact hh
theorem meetingsOf_m (H : MV M v p) {C : Nat} (hc : Model_cycleNow M = I (C : Int)) (hC : C ≤ 2520) {a b : Nat} (ha : a < hG v) (hb : b < hG v) : Mod_meetingsOf (I (a : Int)) (I (b : Int)) M = some (I ((cnt (meetB (House_set_phases v p) a b) C : Nat) : Int)) := by
  unfold Mod_meetingsOf
  exact meetings_loop H hc hC ha hb C 0 FU (by omega) (by unfold FU; omega)
theorem passings_loop (H : MV M v p) {C : Nat} (hc : Model_cycleNow M = I (C : Int)) (hC : C ≤ 2520) {a b : Nat} (ha : a < hG v) (hb : b < hG v) : ∀ (q k n : Nat), C = k + q → q < n → Mod_passingsOf_5 (I (a : Int)) (I (b : Int)) M n (I ((cnt (passB (House_set_phases v p) a b) k : Nat) : Int)) (I (k : Int)) = some (I ((cnt (passB (House_set_phases v p) a b) C : Nat) : Int)) := by
  intro q
  induction q with
  | zero =>
    intro k n hk hm
    obtain ⟨n, rfl⟩ : ∃ q, n = q + 1 := ⟨n - 1, by omega⟩
    rw [Mod_passingsOf_5, hc, if_pos (I_le_t (by omega) (by omega) (by omega)), hk, Nat.add_zero]
  | succ q ih =>
    intro k n hk hm
    obtain ⟨n, rfl⟩ : ∃ q, n = q + 1 := ⟨n - 1, by omega⟩
    have hh := ih (k + 1) n (by omega) (by omega)
    rw [cnt] at hh
    rw [Mod_passingsOf_5, hc, if_neg (I_le_f (by omega) (by omega) (by omega)), passBy_m H ha hb (by omega), bind_s]
    cases hm : passB (House_set_phases v p) a b k
    · rw [hm, bif_f] at hh
      rw [bif_f, nmL_e, nmL_e, I_succ, I0, I_add]
      exact hh
    · rw [hm, bif_t] at hh
      rw [bif_t, nmL_e, nmL_e, I_succ, I_succ]
      exact hh
theorem passingsOf_m (H : MV M v p) {C : Nat} (hc : Model_cycleNow M = I (C : Int)) (hC : C ≤ 2520) {a b : Nat} (ha : a < hG v) (hb : b < hG v) : Mod_passingsOf (I (a : Int)) (I (b : Int)) M = some (I ((cnt (passB (House_set_phases v p) a b) C : Nat) : Int)) := by
  unfold Mod_passingsOf
  exact passings_loop H hc hC ha hb C 0 FU (by omega) (by unfold FU; omega)
theorem crossIn_m (H : MV M v p) (hc : Model_cycleNow M = I (cyc (House_set_phases v p) : Int)) {g : Nat} {A : Int} {k4 : Int32 → Int32 → Option Int32} (hg : g < hG v) : ∀ (q j n : Nat), g = j + q → q < n → Mod_crossingsLaid_14 M (I (g : Int)) k4 n (I (A + inM (fun a b => pairTo (House_set_phases v p) a b 1 1 (cyc (House_set_phases v p))) g j)) (I (j : Int)) = k4 (I (A + inM (fun a b => pairTo (House_set_phases v p) a b 1 1 (cyc (House_set_phases v p))) g g)) (I ((g + 1 : Nat) : Int)) := by
  have hG4 : hG v ≤ 4 := H.2.1.2.2.2.2.2.2.1
  have hc2 := cyc_le H.2.2.2.1
  intro q
  induction q with
  | zero =>
    intro j n hk hm
    obtain ⟨n, rfl⟩ : ∃ q, n = q + 1 := ⟨n - 1, by omega⟩
    rw [Mod_crossingsLaid_14, if_pos (I_le_t (by omega) (by omega) (by omega)), nmL_e, I_succ, show j = g by omega]
  | succ q ih =>
    intro j n hk hm
    obtain ⟨n, rfl⟩ : ∃ q, n = q + 1 := ⟨n - 1, by omega⟩
    have hh := ih (j + 1) n (by omega) (by omega)
    rw [inM, pair_mp] at hh
    rw [Mod_crossingsLaid_14, if_neg (I_le_f (by omega) (by omega) (by omega)), meetingsOf_m H hc hc2 hg (by omega), bind_s, passingsOf_m H hc hc2 hg (by omega), bind_s, nmL_e, nmL_e, I_succ, I_add, I_add, Int.add_assoc]
    exact hh
theorem cross_m_loop (H : MV M v p) (hc : Model_cycleNow M = I (cyc (House_set_phases v p) : Int)) : ∀ (q k n : Nat), hG v = k + q → q < n → Mod_crossingsLaid_4 M n (I (crM (fun a b => pairTo (House_set_phases v p) a b 1 1 (cyc (House_set_phases v p))) k)) (I (k : Int)) = some (I (cross (House_set_phases v p))) := by
  have hG4 : hG v ≤ 4 := H.2.1.2.2.2.2.2.2.1
  intro q
  induction q with
  | zero =>
    intro k n hk hm
    obtain ⟨n, rfl⟩ : ∃ q, n = q + 1 := ⟨n - 1, by omega⟩
    rw [Mod_crossingsLaid_4, guards_m H.1 H.2.1, bind_s, if_pos (I_le_t (by omega) (by omega) (by omega)), cross, show hG (House_set_phases v p) = k from hk]
  | succ q ih =>
    intro k n hk hm
    obtain ⟨n, rfl⟩ : ∃ q, n = q + 1 := ⟨n - 1, by omega⟩
    have hh := ih (k + 1) n (by omega) (by omega)
    rw [crM] at hh
    rw [Mod_crossingsLaid_4, guards_m H.1 H.2.1, bind_s, if_neg (I_le_f (by omega) (by omega) (by omega))]
    have := crossIn_m H hc (g := k) (A := crM (fun a b => pairTo (House_set_phases v p) a b 1 1 (cyc (House_set_phases v p))) k) (k4 := fun (x1 : Int32) (x2 : Int32) => Mod_crossingsLaid_4 M n x1 x2) (by omega) k 0 FU (by omega) (by unfold FU; omega)
    rw [inM, Int.add_zero] at this
    rw [I_zero, this]
    exact hh
theorem crossings_m (H : MV M v p) (hc : Model_cycleNow M = I (cyc (House_set_phases v p) : Int)) : Mod_crossingsLaid M = some (I (cross (House_set_phases v p))) := by
  have hG4 : hG v ≤ 4 := H.2.1.2.2.2.2.2.2.1
  unfold Mod_crossingsLaid
  exact cross_m_loop H hc (hG v) 0 FU (by omega) (by unfold FU; omega)
end
end PAIRS
