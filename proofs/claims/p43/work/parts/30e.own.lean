section OWNE
variable {o : OwnV} {nd nr nw : Nat} {D R W : RowsT} {F : Nat → Int32} {v : HouseV}
/-! a walk by a number -/
def xw (w : Nat → Int32) (s : Nat) : Nat := (w s).toNatClampNeg
theorem xw_i {w : Nat → Int32} {k y : Nat} (hy : y < 2147483648) : xw (upd w k (I (y : Int))) k = y := by
  unfold xw
  rw [upd_i, I_clamp y hy]
theorem xw_n {w : Nat → Int32} {k s : Nat} {y : Int32} (h : s ≠ k) : xw (upd w k y) s = xw w s := by
  unfold xw
  rw [upd_n h]
def GW4 (w : Nat → Int32) (k N : Nat) : Prop := ∀ s, s < k → w s = I (xw w s : Int) ∧ xw w s < N
/-- the same room, or an open door -/
def go4 (A B : Nat → Nat) (O : Nat → Bool) (N a b : Nat) : Prop := a = b ∨ 0 < cnt (opC A B O a b) N
def ST4 (A B : Nat → Nat) (O : Nat → Bool) (N : Nat) (w : Nat → Int32) (k : Nat) : Prop := ∀ s, s + 1 < k → go4 A B O N (xw w s) (xw w (s + 1))
section
variable {N : Nat} {A B : Nat → Nat} {O : Nat → Bool} {rm : Nat}
theorem owb130 {x1 : Int32} {w0 : Nat → Int32} {n c s : Nat} (hn : n ≤ 100) {l0 : Nat} (hl : n ≤ l0) : ∀ (q k m : Nat) (w1 : Nat → Int32), n = k + q → q < m → (∀ s, s < k → w1 s = w0 s) → ∃ w1', Own_walkBy_130 x1 o nd D (I (n : Int)) m (I (k : Int)) l0 w0 n w1 c s = some (n, w1') ∧ ∀ s, s < n → w1' s = w0 s := by
  intro q
  induction q with
  | zero =>
    intro k m w1 hk hm h1
    obtain ⟨m, rfl⟩ : ∃ q, m = q + 1 := ⟨m - 1, by omega⟩
    rw [Own_walkBy_130, if_pos (I_le_t (by omega) (by omega) (by omega))]
    exact ⟨w1, rfl, fun s hs => h1 s (by omega)⟩
  | succ q ih =>
    intro k m w1 hk hm h1
    obtain ⟨m, rfl⟩ : ∃ q, m = q + 1 := ⟨m - 1, by omega⟩
    rw [Own_walkBy_130, if_neg (I_le_f (by omega) (by omega) (by omega)), gd_I (by omega) (by omega) (by omega), gd_I (by omega) (by omega) (by omega), nmL_e, nmL_e, I_clamp k (by omega), I_succ]
    exact ih (k + 1) m _ (by omega) (by omega) fun s hs => by
      by_cases e : s = k
      · rw [e, upd_i]
      · rw [upd_n e]; exact h1 s (by omega)
/-- what a walk by a number is -/
def WBY (A B : Nat → Nat) (O : Nat → Bool) (N rm : Nat) (l : Nat) (w : Nat → Int32) : Prop := 1 ≤ l ∧ l ≤ 4 ∧ GW4 w l rm ∧ ST4 A B O N w l ∧ go4 A B O N (xw w (l - 1)) (xw w 0)
theorem WBY.congr {l : Nat} {w w' : Nat → Int32} (h : WBY A B O N rm l w) (e : ∀ s, s < l → w' s = w s) : WBY A B O N rm l w' := by
  obtain ⟨h1, h2, h3, h4, h5⟩ := h
  have hx : ∀ s, s < l → xw w' s = xw w s := fun s hs => by unfold xw; rw [e s hs]
  refine ⟨h1, h2, fun s hs => ?_, fun s hs => ?_, ?_⟩
  · rw [e s hs, hx s hs]; exact h3 s hs
  · rw [hx s (by omega), hx (s + 1) hs]; exact h4 s hs
  · rw [hx (l - 1) (by omega), hx 0 (by omega)]; exact h5
theorem owb_end {x1 : Int32} {w0 : Nat → Int32} {n l0 : Nat} (h1 : 1 ≤ n) (h4 : n ≤ 4) (hl : n ≤ l0) (hl4 : l0 ≤ 4) (hg : GW4 w0 n rm) (hs : ST4 A B O N w0 n) (he : go4 A B O N (xw w0 (n - 1)) (xw w0 0)) : ∃ l w, (gd (inB (I (n : Int)) 1001) <| gd (decide (0 + 1 + 1 ≤ 2 ∧ 0 + l0 + (Int32.toNatClampNeg (I (n : Int))) ≤ 20)) <| Own_walkBy_130 x1 o nd D (I (n : Int)) FU 0 l0 w0 (Int32.toNatClampNeg (I (n : Int))) (fun _ => 0) (0 + 1 + 1) (0 + l0 + (Int32.toNatClampNeg (I (n : Int))))) = some (l, w) ∧ WBY A B O N rm l w := by
  rw [gd_I (by omega) (by omega) (by omega), I_clamp n (by omega), gd_d ⟨by omega, by omega⟩, I_zero]
  obtain ⟨w, e1, e2⟩ := owb130 (o := o) (nd := nd) (D := D) (x1 := x1) (w0 := w0) (n := n) (c := 0 + 1 + 1) (s := 0 + l0 + n) (by omega) hl n 0 FU (fun _ => I ((0 : Nat) : Int)) (by omega) (by unfold FU; omega) (fun s hs => absurd hs (by omega))
  exact ⟨n, w, e1, WBY.congr ⟨h1, h4, hg, hs, he⟩ e2⟩
theorem owb85 (hd : DC o nd D N A B O) (hN : N ≤ 20) (hr12 : rm ≤ 12) {x1 : Int32} {w0 : Nat → Int32} {l0 : Nat} (hl4 : l0 ≤ 4) : ∀ (n m : Nat), 1 ≤ n → n ≤ l0 → n < m → GW4 w0 n rm → ST4 A B O N w0 n → ∃ l w, Own_walkBy_85 x1 o nd D m (I (n : Int)) l0 w0 (0 + 1) (0 + l0) = some (l, w) ∧ WBY A B O N rm l w := by
  intro n
  induction n with
  | zero => intro m h1; omega
  | succ n ih =>
    intro m h1 h2 h3 hg hs
    obtain ⟨m, rfl⟩ : ∃ q, m = q + 1 := ⟨m - 1, by omega⟩
    by_cases c : n = 0
    · rw [Own_walkBy_85, if_pos (show I ((n + 1 : Nat) : Int) ≤ 1 from I_le_t (b := 1) (by omega) (by omega) (by omega))]
      exact owb_end h1 (by omega) h2 hl4 hg hs (by rw [c]; exact Or.inl rfl)
    · obtain ⟨a1, a2⟩ := hg n (by omega)
      obtain ⟨b1, b2⟩ := hg 0 (by omega)
      have hop := oopen_s hd hN (a := xw w0 n) (b := xw w0 0) (by omega) (by omega)
      have hcl := cnt_le (opC A B O (xw w0 n) (xw w0 0)) N
      rw [Own_walkBy_85, if_neg (show ¬ I ((n + 1 : Nat) : Int) ≤ 1 from I_le_f (b := 1) (by omega) (by omega) (by omega)), I1, I_sub, show ((n + 1 : Nat) : Int) - 1 = (n : Int) by omega, gd_I (by omega) (by omega) (by omega), gd_t (by rw [I0, inB_I (by omega) (by omega)]; exact decide_eq_true (by omega)), I_clamp n (by omega), cl0, a1, b1]
      by_cases c1 : xw w0 n = xw w0 0
      · rw [if_pos (by rw [c1])]
        exact owb_end h1 (by omega) h2 hl4 hg hs (Or.inl c1)
      · rw [if_neg (I_ne (by omega) (by omega) (by omega) (by omega) (by omega)), hop, bind_s]
        by_cases c2 : cnt (opC A B O (xw w0 n) (xw w0 0)) N = 0
        · rw [c2, if_pos Iz, nmL_e, show (-I 1 : Int32) = I (-1) from rfl, I_add, show ((n + 1 : Nat) : Int) + -1 = (n : Int) by omega]
          exact ih m (by omega) (by omega) (by omega) (fun s hs => hg s (by omega)) (fun s hq => hs s (by omega))
        · rw [if_neg (show ¬ I ((cnt (opC A B O (xw w0 n) (xw w0 0)) N : Nat) : Int) = 0 from I_ne (b := 0) (by omega) (by omega) (by omega) (by omega) (by omega))]
          exact owb_end h1 (by omega) h2 hl4 hg hs (Or.inr (by show 0 < cnt (opC A B O (xw w0 n) (xw w0 0)) N; omega))
theorem owb28 (hd : DC o nd D N A B O) (hN : N ≤ 20) (hr : Own_rooms o = I (rm : Int)) (hr1 : 1 ≤ rm) (hr12 : rm ≤ 12) {x1 : Int32} {n : Nat} (hn : n ≤ 4) : ∀ (q k m : Nat) (w0 : Nat → Int32), n = k + q → q < m → 1 ≤ k → GW4 w0 k rm → ST4 A B O N w0 k → ∃ l w, Own_walkBy_28 x1 o nd D (I (n : Int)) m (I (k : Int)) n w0 (0 + 1) (0 + n) = some (l, w) ∧ WBY A B O N rm l w := by
  intro q
  induction q with
  | zero =>
    intro k m w0 hk hm h1 hg hs
    obtain ⟨m, rfl⟩ : ∃ q, m = q + 1 := ⟨m - 1, by omega⟩
    obtain rfl : n = k := by omega
    rw [Own_walkBy_28, if_pos (I_le_t (by omega) (by omega) (by omega))]
    exact owb85 hd hN hr12 hn n FU h1 (Nat.le_refl _) (by unfold FU; omega) hg hs
  | succ q ih =>
    intro k m w0 hk hm h1 hg hs
    obtain ⟨m, rfl⟩ : ∃ q, m = q + 1 := ⟨m - 1, by omega⟩
    obtain ⟨t, t1, t2⟩ := most_s (x1 >>> ((I (k : Int) + 4) &&& 31)) (m := rm) hr1 (by omega)
    obtain ⟨j, rfl⟩ : ∃ j, k = j + 1 := ⟨k - 1, by omega⟩
    obtain ⟨a1, a2⟩ := hg j (by omega)
    have hop := oopen_s hd hN (a := xw w0 j) (b := t) (by omega) (by omega)
    have hcl := cnt_le (opC A B O (xw w0 j) t) N
    have next : ∀ y : Nat, y < rm → go4 A B O N (xw w0 j) y → ∃ l w, Own_walkBy_28 x1 o nd D (I (n : Int)) m (I ((j + 1 + 1 : Nat) : Int)) n (upd w0 (j + 1) (I (y : Int))) (0 + 1) (0 + n) = some (l, w) ∧ WBY A B O N rm l w := by
      intro y hy hgo
      refine ih (j + 1 + 1) m _ (by omega) (by omega) (by omega) (fun s hq => ?_) (fun s hq => ?_)
      · by_cases e : s = j + 1
        · rw [e, xw_i (by omega), upd_i]
          exact ⟨rfl, hy⟩
        · rw [xw_n e, upd_n e]
          exact hg s (by omega)
      · by_cases e : s = j
        · rw [e, xw_i (by omega), xw_n (by omega)]
          exact hgo
        · rw [xw_n (by omega), xw_n (by omega)]
          exact hs s (by omega)
    rw [Own_walkBy_28, if_neg (I_le_f (by omega) (by omega) (by omega)), hr, t2, bind_s, I1, I_sub, show ((j + 1 : Nat) : Int) - 1 = (j : Int) by omega, gd_I (by omega) (by omega) (by omega), I_clamp j (by omega), a1, hop, bind_s, ← I1, I_succ]
    by_cases c : cnt (opC A B O (xw w0 j) t) N = 0
    · rw [c, if_pos (by decide), gd_I (by omega) (by omega) (by omega), nmL_e, nmL_e, I_clamp (j + 1) (by omega)]
      exact next (xw w0 j) a2 (Or.inl rfl)
    · rw [if_neg (show ¬ I ((cnt (opC A B O (xw w0 j) t) N : Nat) : Int) ≤ 0 from I_le_f (b := 0) (by omega) (by omega) (by omega)), gd_I (by omega) (by omega) (by omega), nmL_e, nmL_e, I_clamp (j + 1) (by omega)]
      exact next t t1 (Or.inr (by omega))
theorem owalkBy_s (hd : DC o nd D N A B O) (hN : N ≤ 20) (hr : Own_rooms o = I (rm : Int)) (hr1 : 1 ≤ rm) (hr12 : rm ≤ 12) (x1 : Int32) : ∃ l w, Own_walkBy x1 o nd D = some (l, w) ∧ WBY A B O N rm l w := by
  obtain ⟨n, n1, n2⟩ := most_s x1 (m := 4) (by omega) (by omega)
  obtain ⟨t, t1, t2⟩ := most_s (x1 >>> (3 &&& 31)) (m := rm) hr1 (by omega)
  unfold Own_walkBy
  rw [show (4 : Int32) = I ((4 : Nat) : Int) from rfl, n2, bind_s, nmL_e, show (1 : Int32) + I (n : Int) = I ((n + 1 : Nat) : Int) by rw [I1, I_add, show (1 : Int) + (n : Int) = ((n + 1 : Nat) : Int) by omega], gd_I (by omega) (by omega) (by omega), I_clamp (n + 1) (by omega), gd_d ⟨by omega, by omega⟩, hr, t2, bind_s, gd_t (by rw [I0, inB_I (by omega) (by omega)]; exact decide_eq_true (by omega)), nmL_e, cl0, show (1 : Int32) = I ((1 : Nat) : Int) from rfl]
  refine owb28 hd hN hr hr1 hr12 (n := n + 1) (by omega) n 1 FU _ (by omega) (by unfold FU; omega) (by omega) (fun s hs => ?_) (fun s hs => absurd hs (by omega))
  rw [show s = 0 by omega, xw_i (by omega), upd_i]
  exact ⟨rfl, t1⟩
end
/-! minutes that pass -/
/-- the sightings of n minutes from M on -/
def psum (v : HouseV) (M : Nat) : Nat → Nat
  | 0 => 0
  | k + 1 => psum v M k + cnt (fun r => Sg v r (M + k)) (hR v)
/-- the same rows, but for what has passed -/
def RRow (R' R : RowsT) : Prop := R'.1 = R.1 ∧ R'.2.1 = R.2.1 ∧ ∀ r, R'.2.2 r 0 = R.2.2 r 0
theorem RRow.refl (R : RowsT) : RRow R R := ⟨rfl, rfl, fun _ => rfl⟩
theorem RRow.set {R' R : RowsT} (h : RRow R' R) {k j : Nat} (hj : j ≠ 0) (y : Int32) : RRow (rrSet R' k (upd (R'.2.2 k) j y)) R := by
  refine ⟨h.1, h.2.1, fun r => ?_⟩
  show (if r = k then upd (R'.2.2 k) j y else R'.2.2 r) 0 = R.2.2 r 0
  by_cases c : r = k
  · rw [if_pos c, upd_n (by omega), c]; exact h.2.2 k
  · rw [if_neg c]; exact h.2.2 r
theorem rrSet_1 (R : RowsT) (k : Nat) (x : Nat → Int32) : (rrSet R k x).1 = R.1 := rfl
theorem rrSet_2 (R : RowsT) (k : Nat) (x : Nat → Int32) : (rrSet R k x).2.1 = R.2.1 := rfl
theorem opass12 (h : OW o nw W F v) (hr : RC o nr R v) {M : Nat} (hM : Own_minute o = I (M : Int)) (hM2 : M ≤ 2000000) {x1 x3 : Int32} {A : Nat} (k4 : Int32 → Int32 → OwnV → RowsT → Option (Int32 × OwnV × RowsT)) : ∀ (q k m : Nat) (R1 : RowsT), hR v = k + q → q < m → RRow R1 R → ∃ R2, RRow R2 R ∧ Own_pass_12 x1 nr nw W F x3 k4 m (I ((A + cnt (fun r => Sg v r M) k : Nat) : Int)) (I (k : Int)) o R1 = k4 (I ((A + cnt (fun r => Sg v r M) (hR v) : Nat) : Int)) (x3 + 1) (Own_set_minute o (I ((M + 1 : Nat) : Int))) R2 := by
  obtain ⟨a1, a2, a3, a4, a5, a6⟩ := hr
  intro q
  induction q with
  | zero =>
    intro k m R1 hk hm h1
    obtain ⟨m, rfl⟩ : ∃ q, m = q + 1 := ⟨m - 1, by omega⟩
    refine ⟨R1, h1, ?_⟩
    rw [Own_pass_12, a1, if_pos (I_le_t (by omega) (by omega) (by omega)), nmL_e, nmL_e, hM, I_succ, show k = hR v by omega]
  | succ q ih =>
    intro k m R1 hk hm h1
    obtain ⟨m, rfl⟩ : ∃ q, m = q + 1 := ⟨m - 1, by omega⟩
    obtain ⟨b1, b2, b3⟩ := a6 k (by omega)
    have l1 : R1.2.1 k = 5 := by rw [h1.2.1, b1]
    have l2 : R1.1 = hR v := by rw [h1.1, a3]
    rw [Own_pass_12, a1, if_neg (I_le_f (by omega) (by omega) (by omega)), hM, L_of (by omega) (by omega), ow_in h (by omega) hM2, bind_s]
    cases hS : Sg v k M
    · obtain ⟨R2, e1, e2⟩ := ih (k + 1) m _ (by omega) (by omega) ((h1.set (k := k) (j := 3) (by omega) (R1.2.2 k 3 + 1)).set (k := k) (j := 4) (by omega) (imax ((rrSet R1 k (upd (R1.2.2 k) 3 (R1.2.2 k 3 + 1))).2.2 k 4) ((rrSet R1 k (upd (R1.2.2 k) 3 (R1.2.2 k 3 + 1))).2.2 k 3)))
      refine ⟨R2, e1, ?_⟩
      rw [cnt] at e2
      rw [hS, bif_f, Nat.add_zero] at e2
      rw [in_no hS, if_pos Iz, gd_I (by omega) (by omega) (by omega), I_clamp k (by omega), gd_d (by omega), gd_d (by omega), l1, gd_t (by decide), nmL_e, rrSet_1, rrSet_2, gd_d (by omega), l1, gd_t (by decide), gd_t (by decide), nmL_e, nmL_e, cl3, cl4, I_succ]
      exact e2
    · have hy := in_yes h.2.2.1 hS
      obtain ⟨R2, e1, e2⟩ := ih (k + 1) m _ (by omega) (by omega) (((h1.set (k := k) (j := 1) (by omega) (R1.2.2 k 1 + 1)).set (k := k) (j := 2) (by omega) (I (M : Int))).set (k := k) (j := 3) (by omega) 0)
      refine ⟨R2, e1, ?_⟩
      rw [cnt] at e2
      rw [hS, bif_t, ← Nat.add_assoc] at e2
      rw [if_neg (show ¬ I (msk (fun g => decide (place v g M = k)) (hG v) : Int) = 0 from I_ne (b := 0) (by omega) (by omega) (by omega) (by omega) (by omega)), gd_I (by omega) (by omega) (by omega), I_clamp k (by omega), gd_d (by omega), gd_d (by omega), l1, gd_t (by decide), nmL_e, rrSet_1, rrSet_2, gd_d (by omega), l1, gd_t (by decide), nmL_e, rrSet_1, rrSet_2, rrSet_1, rrSet_2, gd_d (by omega), l1, gd_t (by decide), nmL_e, nmL_e, nmL_e, cl1, cl2, cl3, I_succ, I_succ]
      exact e2
theorem OW.min (h : OW o nw W F v) (x : Int32) : OW (Own_set_minute o x) nw W F v := h
theorem RC.min (h : RC o nr R v) (x : Int32) : RC (Own_set_minute o x) nr R v := h
theorem RC.row {R' : RowsT} (h : RC o nr R v) (k : RRow R' R) : RC o nr R' v := by
  obtain ⟨a1, a2, a3, a4, a5, a6⟩ := h
  exact ⟨a1, a2, by rw [k.1]; exact a3, a4, a5, fun r hr => by rw [k.2.1, k.2.2 r]; exact a6 r hr⟩
theorem opass_loop {n : Nat} (hn : n ≤ 1000) {M : Nat} (hM2 : M ≤ 1000000) : ∀ (q k m : Nat) (o : OwnV) (R1 : RowsT), n = k + q → q < m → OW o nw W F v → RC o nr R1 v → Own_minute o = I ((M + k : Nat) : Int) → ∃ o' R2, RRow R2 R1 ∧ Own_pass_4 (I (n : Int)) nr nw W F m (I (psum v M k : Int)) (I (k : Int)) o R1 = some (I (psum v M n : Int), o', R2) ∧ o' = Own_set_minute o (I ((M + n : Nat) : Int)) := by
  intro q
  induction q with
  | zero =>
    intro k m o R1 hk hm h hr hM
    obtain ⟨m, rfl⟩ : ∃ q, m = q + 1 := ⟨m - 1, by omega⟩
    refine ⟨o, R1, RRow.refl _, ?_, ?_⟩
    · rw [Own_pass_4, if_pos (I_le_t (by omega) (by omega) (by omega)), show k = n by omega]
    · rw [show M + n = M + k by omega, ← hM]
      rfl
  | succ q ih =>
    intro k m o R1 hk hm h hr hM
    obtain ⟨m, rfl⟩ : ∃ q, m = q + 1 := ⟨m - 1, by omega⟩
    have a5 := hr.2.2.2.2.1
    obtain ⟨R2, e1, e2⟩ := opass12 h hr hM (by omega) (x1 := I (n : Int)) (x3 := I (k : Int)) (A := psum v M k) (fun x2 x3 v0 v2 => Own_pass_4 (I (n : Int)) nr nw W F m x2 x3 v0 v2) (hR v) 0 FU R1 (by omega) (by unfold FU; omega) (RRow.refl _)
    obtain ⟨o', R3, f1, f2, f3⟩ := ih (k + 1) m (Own_set_minute o (I ((M + k + 1 : Nat) : Int))) R2 (by omega) (by omega) (h.min _) ((hr.min _).row e1) rfl
    refine ⟨o', R3, ⟨f1.1.trans e1.1, f1.2.1.trans e1.2.1, fun r => (f1.2.2 r).trans (e1.2.2 r)⟩, ?_, f3⟩
    rw [Own_pass_4, if_neg (I_le_f (by omega) (by omega) (by omega)), I_zero]
    refine Eq.trans ?_ f2
    rw [I_succ] at e2
    exact e2
theorem opass_s (h : OW o nw W F v) (hr : RC o nr R v) {n M : Nat} (hn : n ≤ 1000) (hM2 : M ≤ 1000000) (hM : Own_minute o = I (M : Int)) : ∃ R', RRow R' R ∧ Own_pass (I (n : Int)) o nr R nw W F = some (I (psum v M n : Int), Own_set_minute o (I ((M + n : Nat) : Int)), R') := by
  unfold Own_pass
  obtain ⟨o', R2, e1, e2, e3⟩ := opass_loop (nr := nr) hn hM2 n 0 FU o R (by omega) (by unfold FU; omega) h hr (by rw [Nat.add_zero]; exact hM)
  refine ⟨R2, e1, ?_⟩
  rw [e3] at e2
  exact e2
end OWNE
