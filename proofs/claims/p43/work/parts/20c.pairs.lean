section PAIRS
def meetB (w : HouseV) (a b t : Nat) : Bool := decide (place w a t = place w b t)
def passB (w : HouseV) (a b t : Nat) : Bool := !meetB w a b t && (decide (place w a t = place w b (t + 1)) && decide (place w b t = place w a (t + 1)))
theorem meetB_c (w : HouseV) (a b t : Nat) : meetB w a b t = meetB w b a t := by
  unfold meetB
  rw [Bool.eq_iff_iff, decide_eq_true_iff, decide_eq_true_iff]
  exact ⟨Eq.symm, Eq.symm⟩
theorem passB_c (w : HouseV) (a b t : Nat) : passB w a b t = passB w b a t := by
  unfold passB
  rw [meetB_c, Bool.and_comm (decide (place w a t = place w b (t + 1)))]
/-- what two guards add up to in the first k minutes -/
def pairTo (w : HouseV) (a b : Nat) (mt ps : Int) : Nat → Int
  | 0 => 0
  | k + 1 => pairTo w a b mt ps k + (bif meetB w a b k then mt else bif passB w a b k then ps else 0)
theorem pair_m (w : HouseV) (a b k : Nat) : pairTo w a b 1 0 k = ((cnt (meetB w a b) k : Nat) : Int) := by
  induction k with
  | zero => rfl
  | succ k ih =>
    unfold pairTo cnt
    rw [ih]
    cases meetB w a b k
    · rw [bif_f, bif_f]
      cases passB w a b k <;> simp
    · rw [bif_t, bif_t]; rfl
theorem pass_meet (w : HouseV) (a b t : Nat) (h : meetB w a b t = true) : passB w a b t = false := by
  unfold passB
  rw [h]; rfl
theorem pair_p (w : HouseV) (a b k : Nat) : pairTo w a b 0 1 k = ((cnt (passB w a b) k : Nat) : Int) := by
  induction k with
  | zero => rfl
  | succ k ih =>
    unfold pairTo cnt
    rw [ih]
    cases hm : meetB w a b k
    · rw [bif_f]
      cases passB w a b k <;> simp
    · rw [bif_t, pass_meet w a b k hm, bif_f]; rfl
theorem pair_mp (w : HouseV) (a b k : Nat) : pairTo w a b 1 1 k = ((cnt (meetB w a b) k : Nat) : Int) + ((cnt (passB w a b) k : Nat) : Int) := by
  induction k with
  | zero => rfl
  | succ k ih =>
    unfold pairTo cnt
    rw [ih]
    cases hm : meetB w a b k
    · rw [bif_f, bif_f]
      cases passB w a b k
      · rw [bif_f, bif_f]; omega
      · rw [bif_t, bif_t]; omega
    · rw [bif_t, bif_t, pass_meet w a b k hm, bif_f]; omega
theorem pair_c (w : HouseV) (a b k : Nat) (mt ps : Int) : pairTo w a b mt ps k = pairTo w b a mt ps k := by
  induction k with
  | zero => rfl
  | succ k ih =>
    unfold pairTo
    rw [ih, meetB_c, passB_c]
theorem place_eq {v : HouseV} (hn : WFn v) {a b s t : Nat} (ha : WFg v a) (hb : WFg v b) : (I (place v a s : Int) = I (place v b t : Int)) = (place v a s = place v b t) := by
  have h1 := place_lt ha s
  have h2 := place_lt hb t
  have hR12 : hR v ≤ 12 := hn.2.2.1
  rw [I_eq (by omega) (by omega) (by omega) (by omega)]
  exact propext ⟨fun h => by omega, fun h => by omega⟩
theorem countPair_loop {v : HouseV} (hn : WFn v) (hw : WFG v) {a b : Nat} {mt ps : Int} (ha : a < hG v) (hb : b < hG v) : ∀ (q k n : Nat), cyc v = k + q → q < n → House_countPair_35 (I (a : Int)) (I (b : Int)) (I mt) (I ps) v (I (cyc v : Int)) n (I (pairTo v a b mt ps k)) (I (place v a k : Int)) (I (place v b k : Int)) (I ((k + 1 : Nat) : Int)) = some (I (pairTo v a b mt ps (cyc v))) := by
  have hc2 := cyc_le hw
  intro q
  induction q with
  | zero =>
    intro k n hk hm
    obtain ⟨n, rfl⟩ : ∃ q, n = q + 1 := ⟨n - 1, by omega⟩
    rw [House_countPair_35, if_pos (I_lt_t (by omega) (by omega) (by omega)), show k = cyc v by omega]
  | succ q ih =>
    intro k n hk hm
    obtain ⟨n, rfl⟩ : ∃ q, n = q + 1 := ⟨n - 1, by omega⟩
    have hh := ih (k + 1) n (by omega) (by omega)
    rw [pairTo] at hh
    rw [House_countPair_35, if_neg (I_lt_f (by omega) (by omega) (by omega)), roomAt_s hn ha (hw a ha) (by omega), bind_s, roomAt_s hn hb (hw b hb) (by omega), bind_s]
    by_cases c : place v a k = place v b k
    · have cm : meetB v a b k = true := decide_eq_true c
      rw [cm, bif_t] at hh
      rw [if_pos (by rw [c]), nmL_e, nmL_e, I_succ, I_add]
      exact hh
    · have cm : meetB v a b k = false := decide_eq_false c
      rw [cm, bif_f] at hh
      rw [if_neg (by rw [place_eq hn (hw a ha) (hw b hb)]; exact c)]
      by_cases c1 : place v a k = place v b (k + 1)
      · rw [if_pos (by rw [c1])]
        by_cases c2 : place v b k = place v a (k + 1)
        · have cp : passB v a b k = true := by unfold passB; rw [cm, decide_eq_true c1, decide_eq_true c2]; rfl
          rw [cp, bif_t] at hh
          rw [if_pos (by rw [c2]), nmL_e, nmL_e, I_succ, I_add]
          exact hh
        · have cp : passB v a b k = false := by unfold passB; rw [decide_eq_false c2, Bool.and_false, Bool.and_false]
          rw [cp, bif_f, Int.add_zero] at hh
          rw [if_neg (by rw [place_eq hn (hw b hb) (hw a ha)]; exact c2), nmL_e, I_succ]
          exact hh
      · have cp : passB v a b k = false := by unfold passB; rw [decide_eq_false c1, Bool.false_and, Bool.and_false]
        rw [cp, bif_f, Int.add_zero] at hh
        rw [if_neg (by rw [place_eq hn (hw a ha) (hw b hb)]; exact c1), nmL_e, I_succ]
        exact hh
theorem countPair_s {v : HouseV} (hn : WFn v) (hw : WFG v) {a b : Nat} {mt ps : Int} (ha : a < hG v) (hb : b < hG v) : House_countPair (I (a : Int)) (I (b : Int)) (I mt) (I ps) v = some (I (if a = b then 0 else pairTo v a b mt ps (cyc v))) := by
  have hG4 : hG v ≤ 4 := hn.2.2.2.2.2.2.1
  have hc2 := cyc_le hw
  unfold House_countPair
  by_cases c : a = b
  · rw [if_pos (by rw [c]), if_pos c]; rfl
  · rw [if_neg (I_ne (by omega) (by omega) (by omega) (by omega) (by omega)), if_neg c, cycleLength_s hn hw, bind_s, I_zero, roomAt_s hn ha (hw a ha) (by omega), bind_s, roomAt_s hn hb (hw b hb) (by omega), bind_s]
    exact countPair_loop hn hw ha hb (cyc v) 0 FU (by omega) (by unfold FU; omega)
/-! all pairs -/
def inC (P : Nat → Nat → Int) (g : Nat) : Nat → Int
  | 0 => 0
  | k + 1 => inC P g k + P g (g + 1 + k)
def crC (P : Nat → Nat → Int) (G : Nat) : Nat → Int
  | 0 => 0
  | k + 1 => crC P G k + inC P k (G - (k + 1))
def inM (P : Nat → Nat → Int) (g : Nat) : Nat → Int
  | 0 => 0
  | k + 1 => inM P g k + P g k
def crM (P : Nat → Nat → Int) : Nat → Int
  | 0 => 0
  | k + 1 => crM P k + inM P k k
theorem cr_eq {P : Nat → Nat → Int} (hP : ∀ a b, P a b = P b a) {G : Nat} (hG : G ≤ 4) : crC P G G = crM P G := by
  have h1 := hP 0 1
  have h2 := hP 0 2
  have h3 := hP 0 3
  have h4 := hP 1 2
  have h5 := hP 1 3
  have h6 := hP 2 3
  have : G = 0 ∨ G = 1 ∨ G = 2 ∨ G = 3 ∨ G = 4 := by omega
  rcases this with rfl | rfl | rfl | rfl | rfl <;> simp only [crC, inC, crM, inM, Nat.sub_self, Nat.reduceAdd, Nat.reduceSub] <;> omega
/-- the crossings of a house -/
def cross (v : HouseV) : Int := crM (fun a b => pairTo v a b 1 1 (cyc v)) (hG v)
theorem crossIn_loop {v : HouseV} (hn : WFn v) (hw : WFG v) {g : Nat} {A : Int} {k4 : Int32 → Int32 → Option Int32} (hg : g < hG v) : ∀ (q j n : Nat), hG v = g + 1 + j + q → q < n → House_countCrossings_16 v (I (g : Int)) k4 n (I (A + inC (fun a b => pairTo v a b 1 1 (cyc v)) g j)) (I ((g + 1 + j : Nat) : Int)) = k4 (I (A + inC (fun a b => pairTo v a b 1 1 (cyc v)) g (hG v - (g + 1)))) (I ((g + 1 : Nat) : Int)) := by
  have hG4 : hG v ≤ 4 := hn.2.2.2.2.2.2.1
  have eG : House_guards v = I (hG v) := hn.2.2.2.2.2.1
  intro q
  induction q with
  | zero =>
    intro j n hk hm
    obtain ⟨n, rfl⟩ : ∃ q, n = q + 1 := ⟨n - 1, by omega⟩
    rw [House_countCrossings_16, eG, if_pos (I_le_t (by omega) (by omega) (by omega)), nmL_e, I_succ, show hG v - (g + 1) = j by omega]
  | succ q ih =>
    intro j n hk hm
    obtain ⟨n, rfl⟩ : ∃ q, n = q + 1 := ⟨n - 1, by omega⟩
    have hh := ih (j + 1) n (by omega) (by omega)
    rw [inC] at hh
    rw [House_countCrossings_16, eG, if_neg (I_le_f (by omega) (by omega) (by omega)), I1, countPair_s hn hw hg (by omega), bind_s, nmL_e, nmL_e, if_neg (by omega), ← I1, I_succ, I_add, Int.add_assoc]
    exact hh
theorem cross_loop {v : HouseV} (hn : WFn v) (hw : WFG v) : ∀ (q k n : Nat), hG v = k + q → q < n → House_countCrossings_4 v n (I (crC (fun a b => pairTo v a b 1 1 (cyc v)) (hG v) k)) (I (k : Int)) = some (I (cross v)) := by
  have hG4 : hG v ≤ 4 := hn.2.2.2.2.2.2.1
  have eG : House_guards v = I (hG v) := hn.2.2.2.2.2.1
  intro q
  induction q with
  | zero =>
    intro k n hk hm
    obtain ⟨n, rfl⟩ : ∃ q, n = q + 1 := ⟨n - 1, by omega⟩
    rw [House_countCrossings_4, eG, if_pos (I_le_t (by omega) (by omega) (by omega)), cross, ← cr_eq (fun a b => pair_c v a b _ 1 1) hG4, hk, Nat.add_zero]
  | succ q ih =>
    intro k n hk hm
    obtain ⟨n, rfl⟩ : ∃ q, n = q + 1 := ⟨n - 1, by omega⟩
    have hh := ih (k + 1) n (by omega) (by omega)
    rw [crC] at hh
    rw [House_countCrossings_4, eG, if_neg (I_le_f (by omega) (by omega) (by omega)), nmL_e, I_succ]
    have := crossIn_loop hn hw (g := k) (A := crC (fun a b => pairTo v a b 1 1 (cyc v)) (hG v) k) (k4 := fun (x1 : Int32) (x2 : Int32) => House_countCrossings_4 v n x1 x2) (by omega) (hG v - (k + 1)) 0 FU (by omega) (by unfold FU; omega)
    rw [inC, Int.add_zero, Nat.add_zero] at this
    rw [this]
    exact hh
theorem crossings_s {v : HouseV} (hn : WFn v) (hw : WFG v) : House_countCrossings v = some (I (cross v)) := by
  have hG4 : hG v ≤ 4 := hn.2.2.2.2.2.2.1
  unfold House_countCrossings
  exact cross_loop hn hw (hG v) 0 FU (by omega) (by unfold FU; omega)
/-! the model's way -/
section
variable {v : HouseV} {p : Nat → Int32}
end
end PAIRS

