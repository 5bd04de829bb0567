section DRAWNX
variable {L : Nat} {xs : Nat → Int32} {x1 x3 : Int32} {o : OwnV} {nR nD nG : Nat} {Dr Rr Wr : RowsT} {F : Nat → Int32}
theorem cell_s (hL : L ≤ 100000) (xs : Nat → Int32) {a : Nat} (ha : a < 1000) : ∃ x, L_cell L xs (I (a : Int)) = some x := by
  unfold L_cell
  rw [nI_e]
  by_cases c : L ≤ a
  · exact ⟨_, by rw [if_pos (I_le_t (by omega) (by omega) (by omega))]⟩
  · exact ⟨xs a, by rw [if_neg (I_le_f (by omega) (by omega) (by omega)), gd_I (by omega) (by omega) (by omega), I_clamp a (by omega)]⟩
/-- what rows say -/
def rA (D : RowsT) (d : Nat) : Nat := (D.2.2 d 0).toNatClampNeg
def rB (D : RowsT) (d : Nat) : Nat := (D.2.2 d 1).toNatClampNeg
def rO (D : RowsT) (d : Nat) : Bool := decide (D.2.2 d 2 = 1)
def rW (W : RowsT) (q s : Nat) : Nat := (W.2.2 q s).toNatClampNeg
def rF (F : Nat → Int32) (q : Nat) : Nat := (F q).toNatClampNeg
theorem app_1 (v : RowsT) (n : Nat) (x : Nat → Int32) : (rrApp v n x).1 = v.1 + 1 := rfl
theorem app_n (v : RowsT) (n : Nat) (x : Nat → Int32) {j : Nat} (h : j ≠ v.1) : (rrApp v n x).2.1 j = v.2.1 j ∧ (rrApp v n x).2.2 j = v.2.2 j := ⟨if_neg h, if_neg h⟩
theorem app_i (v : RowsT) (n : Nat) (x : Nat → Int32) {j : Nat} (h : j = v.1) : (rrApp v n x).2.1 j = n ∧ (rrApp v n x).2.2 j = x := ⟨if_pos h, if_pos h⟩
/-- the doors drawn so far -/
def DRD (nR : Nat) (o : OwnV) (k : Nat) (D : RowsT) : Prop := DC o k D k (rA D) (rB D) (rO D) ∧ ∀ d, d < k → rA D d < nR ∧ rB D d < nR ∧ rA D d ≠ rB D d
theorem dc_own {o' : OwnV} {k nd : Nat} {D : RowsT} {A B : Nat → Nat} {O : Nat → Bool} (h : DC o nd D k A B O) (e : Own_doors o' = Own_doors o) : DC o' nd D k A B O := by
  obtain ⟨h1, h2, h3, h4⟩ := h
  exact ⟨e.trans h1, h2, h3, h4⟩
/-- the guards drawn so far -/
def DRG (nR nD : Nat) (D : RowsT) (o : OwnV) (k : Nat) (W : RowsT) (F : Nat → Int32) : Prop := WC o k W k W.2.1 (rW W) ∧ ∀ q, q < k → F q = I (rF F q : Int) ∧ rF F q < W.2.1 q ∧ 1 ≤ W.2.1 q ∧ W.2.1 q ≤ 4 ∧ ∀ s, s < W.2.1 q → rW W q s < nR ∧ go4 (rA D) (rB D) (rO D) nD (rW W q s) (rW W q ((s + 1) % W.2.1 q))
theorem d255 (hL : L ≤ 100000) (hD : DRD nR o nD Dr) (hD10 : nD ≤ 10) (hR : Own_rooms o = I (nR : Int)) (h1 : 1 ≤ nR) (h6 : nR ≤ 6) (hG : nG ≤ 4) {nr : Nat} : ∀ (q k m : Nat) (o' : OwnV) (F : Nat → Int32) (W : RowsT) (c s : Nat), nG = k + q → q < m → Own_rooms o' = Own_rooms o → Own_doors o' = Own_doors o → Own_minute o' = Own_minute o → DRG nR nD Dr o' k W F → c + 2 * q ≤ 64 → s + 20 * q ≤ 600 → ∃ o2 W2 F2, L_drawn_255 L xs 0 (I (nG : Int)) m (I (k : Int)) o' nD Dr F nr Rr k W c s = some (o2, nD, Dr, nr, Rr, nG, W2, F2) ∧ Own_rooms o2 = Own_rooms o ∧ Own_doors o2 = Own_doors o ∧ Own_minute o2 = Own_minute o ∧ DRG nR nD Dr o2 nG W2 F2 := by
  intro q
  induction q with
  | zero =>
    intro k m o' F W c s hk hm e1 e2 e3 hg hc hs
    obtain ⟨m, rfl⟩ : ∃ q, m = q + 1 := ⟨m - 1, by omega⟩
    have hk' : nG = k := by omega
    subst hk'
    exact ⟨o', W, F, by rw [L_drawn_255, if_pos (I_le_t (by omega) (by omega) (by omega))], e1, e2, e3, hg⟩
  | succ q ih =>
    intro k m o' F W c s hk hm e1 e2 e3 hg hc hs
    obtain ⟨m, rfl⟩ : ∃ q, m = q + 1 := ⟨m - 1, by omega⟩
    obtain ⟨⟨w1, w2, w3, w4⟩, g2⟩ := id hg
    have hcell : (0 : Int32) + 3 + (I (k : Int) - I (k : Int) / 2 * 2) = I ((3 + k % 2 : Nat) : Int) := by
      rw [show (2 : Int32) = I 2 from rfl, I_rem (by omega) (by omega) (by omega) (by omega), show (0 : Int32) + 3 = I 3 from rfl, I_add]
      congr 1
    obtain ⟨x, hx⟩ := cell_s hL xs (a := 3 + k % 2) (by omega)
    obtain ⟨x7, hx7⟩ : ∃ y, y = x >>> ((I (k : Int) / 2 * 6) &&& 31) := ⟨_, rfl⟩
    obtain ⟨l, w, b1, b2⟩ := owalkBy_s (dc_own hD.1 e2) (by omega) (e1.trans hR) h1 (by omega) x7
    obtain ⟨b3, b4, b5, b6, b7⟩ := id b2
    obtain ⟨φ, p1, p2⟩ := most_s (x7 >>> (7 &&& 31)) (m := l) b3 (by omega)
    have ai := app_i W l w (j := k) w3.symm
    have hnew : DRG nR nD Dr (Own_set_guards o' (Own_guards o' + 1)) (k + 1) (rrApp W l w) (upd F k (I (φ : Int))) := by
      have eW : ∀ j, j < k → (rrApp W l w).2.1 j = W.2.1 j ∧ (rrApp W l w).2.2 j = W.2.2 j := fun j hj => app_n W l w (by omega)
      refine ⟨⟨?_, rfl, by rw [app_1, w3], fun j hj => ?_⟩, fun j hj => ?_⟩
      · show Own_guards o' + 1 = _
        rw [w1, I_succ]
      · by_cases d : j = k
        · subst d
          rw [ai.1]
          refine ⟨rfl, b3, by omega, fun s hs => ?_⟩
          have hrw : rW (rrApp W l w) j s = xw w s := by unfold rW xw; rw [ai.2]
          rw [hrw, ai.2]
          have := b5 s hs
          exact ⟨this.1, by omega⟩
        · obtain ⟨z1, z2, z3, z4⟩ := w4 j (by omega)
          have ej := eW j (by omega)
          rw [ej.1]
          refine ⟨rfl, z2, z3, fun s hs => ?_⟩
          have hrw : rW (rrApp W l w) j s = rW W j s := by unfold rW; rw [ej.2]
          rw [hrw, ej.2]
          exact z4 s hs
      · by_cases d : j = k
        · subst d
          have hrf : rF (upd F j (I (φ : Int))) j = φ := by unfold rF; rw [upd_i]; exact I_clamp φ (by omega)
          rw [hrf, ai.1, upd_i]
          have hrw : ∀ s, rW (rrApp W l w) j s = xw w s := fun s => by unfold rW xw; rw [ai.2]
          refine ⟨rfl, p1, b3, b4, fun s hs => ?_⟩
          rw [hrw, hrw]
          refine ⟨(b5 s hs).2, ?_⟩
          by_cases cs : s + 1 < l
          · rw [Nat.mod_eq_of_lt cs]
            exact b6 s cs
          · rw [show s + 1 = l by omega, Nat.mod_self, show s = l - 1 by omega]
            exact b7
        · have ej := eW j (by omega)
          obtain ⟨y1, y2, y3, y4, y5⟩ := g2 j (by omega)
          have hrf : rF (upd F k (I (φ : Int))) j = rF F j := by unfold rF; rw [upd_n d]
          have hrw : ∀ s, rW (rrApp W l w) j s = rW W j s := fun s => by unfold rW; rw [ej.2]
          rw [hrf, ej.1, upd_n d]
          refine ⟨y1, y2, y3, y4, fun s hs => ?_⟩
          rw [hrw, hrw]
          exact y5 s hs
    obtain ⟨o2, W2, F2, z1, z2, z3, z4, z5⟩ := ih (k + 1) m (Own_set_guards o' (Own_guards o' + 1)) (upd F k (I (φ : Int))) (rrApp W l w) (c + 2) (s + 20) (by omega) (by omega) e1 e2 e3 hnew (by omega) (by omega)
    refine ⟨o2, W2, F2, ?_, z2, z3, z4, z5⟩
    rw [L_drawn_255, if_neg (I_le_f (by omega) (by omega) (by omega)), gd_t (by decide), hcell, hx, bind_s, nmL_e, ← hx7, gd_d ⟨by omega, by omega⟩, b1, bind_s, gd_I (by omega) (by omega) (by omega), I_clamp k (by omega), gd_d ⟨rfl, w3.symm⟩]
    dsimp only
    rw [nmL_e, nmL_e, gd_d (by omega), app_1, gd_d (by omega), ai.1, nI_e, p2, bind_s, nmL_e, nmL_e, nmL_e, I_succ]
    exact z1
theorem d128 (hL : L ≤ 100000) (h1 : 1 ≤ nR) (h6 : nR ≤ 6) (hD10 : nD ≤ 10) (hn : nD = 0 ∨ 2 ≤ nR) {nr : Nat} : ∀ (q k m : Nat) (o' : OwnV) (D : RowsT) (c s : Nat), nD = k + q → q < m → Own_rooms o' = I (nR : Int) → Own_guards o' = 0 → Own_minute o' = 0 → DRD nR o' k D → c + q ≤ 50 → s + 3 * q ≤ 500 → ∃ o2 W2 F2 nG D2, L_drawn_128 L xs 0 x3 (I (nD : Int)) m (I (k : Int)) o' k D (fun _ => 0) nr Rr 0 rr0 c s = some (o2, nD, D2, nr, Rr, nG, W2, F2) ∧ nG ≤ 4 ∧ Own_rooms o2 = I (nR : Int) ∧ Own_minute o2 = 0 ∧ DRD nR o2 nD D2 ∧ DRG nR nD D2 o2 nG W2 F2 := by
  intro q
  induction q with
  | zero =>
    intro k m o' D c s hk hm e1 e2 e3 hd hc hs
    obtain ⟨m, rfl⟩ : ∃ q, m = q + 1 := ⟨m - 1, by omega⟩
    have hk' : nD = k := by omega
    subst hk'
    obtain ⟨nG, p1, p2⟩ := most_s (x3 >>> (12 &&& 31)) (m := 5) (by omega) (by omega)
    obtain ⟨o2, W2, F2, z1, z2, z3, z4, z5⟩ := d255 (xs := xs) (Rr := Rr) (nr := nr) hL hd hD10 e1 h1 h6 (by omega : nG ≤ 4) nG 0 FU o' (fun _ => 0) rr0 c s (by omega) (by unfold FU; omega) rfl rfl rfl ⟨⟨e2, rfl, rfl, fun q hq => absurd hq (by omega)⟩, fun q hq => absurd hq (by omega)⟩ (by omega) (by omega)
    refine ⟨o2, W2, F2, nG, D, ?_, by omega, z2.trans e1, z4.trans e3, ⟨dc_own hd.1 z3, hd.2⟩, z5⟩
    rw [L_drawn_128, if_pos (I_le_t (by omega) (by omega) (by omega)), show (5 : Int32) = I ((5 : Nat) : Int) from rfl, p2, bind_s]
    exact z1
  | succ q ih =>
    intro k m o' D c s hk hm e1 e2 e3 hd hc hs
    obtain ⟨m, rfl⟩ : ∃ q, m = q + 1 := ⟨m - 1, by omega⟩
    obtain ⟨⟨w1, w2, w3, w4⟩, g2⟩ := id hd
    have hcell : (0 : Int32) + 1 + (I (k : Int) - I (k : Int) / 2 * 2) = I ((1 + k % 2 : Nat) : Int) := by
      rw [show (2 : Int32) = I 2 from rfl, I_rem (by omega) (by omega) (by omega) (by omega), show (0 : Int32) + 1 = I 1 from rfl, I_add]
      congr 1
    obtain ⟨x, hx⟩ := cell_s hL xs (a := 1 + k % 2) (by omega)
    obtain ⟨x6, hx6⟩ : ∃ y, y = x >>> ((I (k : Int) / 2 * 5) &&& 31) := ⟨_, rfl⟩
    obtain ⟨a, a1, a2⟩ := most_s x6 (m := nR) h1 (by omega)
    obtain ⟨b, b1, b2⟩ := most_s (x6 >>> (2 &&& 31)) (m := nR - 1) (by omega) (by omega)
    obtain ⟨p, p1, p2⟩ := most_s (x6 >>> (4 &&& 31)) (m := 5) (by omega) (by omega)
    have hb : ∀ z : Int32, z = I (nR : Int) → z - 1 = I ((nR - 1 : Nat) : Int) := fun z hz => by
      rw [hz, I1, I_sub]
      congr 1
      omega
    obtain ⟨b', hb'⟩ : ∃ b', b' = (a + 1 + b) % nR := ⟨_, rfl⟩
    have hbl : b' < nR := by rw [hb']; exact Nat.mod_lt _ (by omega)
    have hab : a ≠ b' := by
      rw [hb']
      by_cases d : a + 1 + b < nR
      · rw [Nat.mod_eq_of_lt d]; omega
      · rw [show a + 1 + b = (a + 1 + b - nR) + nR by omega, Nat.add_mod_right, Nat.mod_eq_of_lt (by omega)]
        omega
    have hmod : I (a : Int) + 1 + I (b : Int) - (I (a : Int) + 1 + I (b : Int)) / I (nR : Int) * I (nR : Int) = I (b' : Int) := by
      rw [I1, I_add, I_add, I_rem (by omega) (by omega) (by omega) (by omega), hb']
      congr 1
    have step : ∀ z : Nat, z ≤ 1 → ∃ o2 W2 F2 nG D2, L_drawn_128 L xs 0 x3 (I (nD : Int)) m (I ((k + 1 : Nat) : Int)) (Own_set_doors o' (Own_doors o' + 1)) (k + 1) (rrApp D 3 (upd (upd (upd (fun _ => 0) 0 (I (a : Int))) 1 (I (b' : Int))) 2 (I (z : Int)))) (fun _ => 0) nr Rr 0 rr0 (c + 1) (s + 3) = some (o2, nD, D2, nr, Rr, nG, W2, F2) ∧ nG ≤ 4 ∧ Own_rooms o2 = I (nR : Int) ∧ Own_minute o2 = 0 ∧ DRD nR o2 nD D2 ∧ DRG nR nD D2 o2 nG W2 F2 := by
      intro z hz
      obtain ⟨X, hX⟩ : ∃ X, X = upd (upd (upd (fun _ => 0) 0 (I (a : Int))) 1 (I (b' : Int))) 2 (I (z : Int)) := ⟨_, rfl⟩
      rw [← hX]
      have X0 : X 0 = I (a : Int) := by rw [hX, upd_n (by omega), upd_n (by omega), upd_i]
      have X1 : X 1 = I (b' : Int) := by rw [hX, upd_n (by omega), upd_i]
      have X2 : X 2 = I (z : Int) := by rw [hX, upd_i]
      have ai := app_i D 3 X (j := k) w3.symm
      have eD : ∀ j, j < k → (rrApp D 3 X).2.1 j = D.2.1 j ∧ (rrApp D 3 X).2.2 j = D.2.2 j := fun j hj => app_n D 3 X (by omega)
      have hnew : DRD nR (Own_set_doors o' (Own_doors o' + 1)) (k + 1) (rrApp D 3 X) := by
        have ek : rA (rrApp D 3 X) k = a ∧ rB (rrApp D 3 X) k = b' := by
          unfold rA rB
          rw [ai.2, X0, X1]
          exact ⟨I_clamp a (by omega), I_clamp b' (by omega)⟩
        have ej : ∀ j, j < k → rA (rrApp D 3 X) j = rA D j ∧ rB (rrApp D 3 X) j = rB D j ∧ rO (rrApp D 3 X) j = rO D j := fun j hj => by
          unfold rA rB rO
          rw [(eD j hj).2]
          exact ⟨rfl, rfl, rfl⟩
        refine ⟨⟨?_, rfl, by rw [app_1, w3], fun j hj => ?_⟩, fun j hj => ?_⟩
        · show Own_doors o' + 1 = _
          rw [w1, I_succ]
        · by_cases d : j = k
          · subst d
            rw [ek.1, ek.2, ai.1, ai.2, X0, X1, X2]
            have hO : rO (rrApp D 3 X) j = decide (I (z : Int) = 1) := by unfold rO; rw [ai.2, X2]
            rw [hO]
            refine ⟨rfl, rfl, rfl, ?_, by omega, by omega⟩
            obtain rfl | rfl : z = 0 ∨ z = 1 := by omega
            · rfl
            · rfl
          · obtain ⟨y1, y2, y3⟩ := ej j (by omega)
            rw [y1, y2, y3, (eD j (by omega)).1, (eD j (by omega)).2]
            exact w4 j (by omega)
        · by_cases d : j = k
          · subst d
            rw [ek.1, ek.2]
            exact ⟨a1, hbl, hab⟩
          · obtain ⟨y1, y2, y3⟩ := ej j (by omega)
            rw [y1, y2]
            exact g2 j (by omega)
      exact ih (k + 1) m (Own_set_doors o' (Own_doors o' + 1)) (rrApp D 3 X) (c + 1) (s + 3) (by omega) (by omega) e1 e2 e3 hnew (by omega) (by omega)
    have hr2 : Own_rooms (Own_set_doors o' (Own_doors o' + 1)) = Own_rooms o' := rfl
    have hhead : L_drawn_128 L xs 0 x3 (I (nD : Int)) (m + 1) (I (k : Int)) o' k D (fun _ => 0) nr Rr 0 rr0 c s = if I (p : Int) = 0 then L_drawn_128 L xs 0 x3 (I (nD : Int)) m (I ((k + 1 : Nat) : Int)) (Own_set_doors o' (Own_doors o' + 1)) (k + 1) (rrApp D 3 (upd (upd (upd (fun _ => 0) 0 (I (a : Int))) 1 (I (b' : Int))) 2 0)) (fun _ => 0) nr Rr 0 rr0 (c + 1) (s + 3) else L_drawn_128 L xs 0 x3 (I (nD : Int)) m (I ((k + 1 : Nat) : Int)) (Own_set_doors o' (Own_doors o' + 1)) (k + 1) (rrApp D 3 (upd (upd (upd (fun _ => 0) 0 (I (a : Int))) 1 (I (b' : Int))) 2 1)) (fun _ => 0) nr Rr 0 rr0 (c + 1) (s + 3) := by
      rw [L_drawn_128, if_neg (I_le_f (by omega) (by omega) (by omega)), gd_t (by decide), hcell, hx, bind_s, nmL_e, ← hx6, e1, a2, bind_s, nmL_e, gd_d ⟨by omega, by omega⟩, gd_t (by decide), nmL_e, hr2, e1, hb _ rfl, b2, bind_s, gd_t (nz_I (by omega) (by omega)), gd_t (by decide), nmL_e, hmod, show (5 : Int32) = I ((5 : Nat) : Int) from rfl, p2, bind_s, cl0, cl1, cl2, w1, gd_t (by decide), nmL_e, gd_I (by omega) (by omega) (by omega), I_clamp k (by omega), gd_d ⟨rfl, w3.symm⟩, nmL_e, nmL_e, nmL_e, gd_t (by decide), nmL_e, gd_I (by omega) (by omega) (by omega), gd_d ⟨rfl, w3.symm⟩, nmL_e, nmL_e, nmL_e, I_succ]
    rw [hhead]
    by_cases cp : p = 0
    · subst cp
      rw [if_pos Iz]
      exact step 0 (by omega)
    · rw [if_neg (show ¬ I (p : Int) = 0 from I_ne (b := 0) (by omega) (by omega) (by omega) (by omega) (by omega))]
      exact step 1 (by omega)
/-- the rooms drawn so far -/
def DRR (k : Nat) (R : RowsT) : Prop := R.1 = k ∧ ∀ r, r < k → R.2.1 r = 5 ∧ R.2.2 r 0 = I (rA R r : Int) ∧ rA R r ≤ 99
theorem drr_app {k : Nat} {R : RowsT} (h : DRR k R) {X : Nat → Int32} {a : Nat} (hX : X 0 = I (a : Int)) (ha : a ≤ 99) : DRR (k + 1) (rrApp R 5 X) := by
  obtain ⟨h1, h2⟩ := h
  refine ⟨by rw [app_1, h1], fun r hr => ?_⟩
  by_cases d : r = k
  · have ai := app_i R 5 X (j := r) (by omega)
    have e : rA (rrApp R 5 X) r = a := by unfold rA; rw [ai.2, hX]; exact I_clamp a (by omega)
    rw [e, ai.1, ai.2]
    exact ⟨rfl, hX, ha⟩
  · have an := app_n R 5 X (j := r) (by omega)
    have e : rA (rrApp R 5 X) r = rA R r := by unfold rA; rw [an.2]
    rw [e, an.1, an.2]
    exact h2 r (by omega)
theorem d29 (h1 : 1 ≤ nR) (h6 : nR ≤ 6) (hR : Own_rooms o = I (nR : Int)) : ∀ (q k m : Nat) (R : RowsT) (c s : Nat), nR = k + q → q < m → DRR k R → c + q ≤ 40 → s + 5 * q ≤ 400 → ∃ R2, L_drawn_29 L xs 0 x3 m (I (k : Int)) o 0 rr0 (fun _ => 0) k R 0 rr0 c s = (if Own_rooms o = 1 then L_drawn_128 L xs 0 x3 0 FU 0 o 0 rr0 (fun _ => 0) nR R2 0 rr0 (c + q) (s + 5 * q) else Option.bind (L_most (x3 >>> (9 &&& 31)) 11) fun p120 => L_drawn_128 L xs 0 x3 p120 FU 0 o 0 rr0 (fun _ => 0) nR R2 0 rr0 (c + q) (s + 5 * q)) ∧ DRR nR R2 := by
  intro q
  induction q with
  | zero =>
    intro k m R c s hk hm hr hc hs
    obtain ⟨m, rfl⟩ : ∃ q, m = q + 1 := ⟨m - 1, by omega⟩
    have hk' : nR = k := by omega
    subst hk'
    refine ⟨R, ?_, hr⟩
    rw [L_drawn_29, if_pos (show Own_rooms o ≤ I (nR : Int) by rw [hR]; exact I_le_t (by omega) (by omega) (by omega))]
    rfl
  | succ q ih =>
    intro k m R c s hk hm hr hc hs
    obtain ⟨m, rfl⟩ : ∃ q, m = q + 1 := ⟨m - 1, by omega⟩
    obtain ⟨p, p1, p2⟩ := most_s (x3 >>> ((3 + I (k : Int)) &&& 31)) (m := 3) (by omega) (by omega)
    obtain ⟨y, y1, y2⟩ := most_s (x3 >>> ((2 * I (k : Int)) &&& 31)) (m := 7) (by omega) (by omega)
    have step : ∀ (z : Nat) (z' : Int32), z' = I (z : Int) → z ≤ 99 → ∃ R2, L_drawn_78 L xs 0 (fun (x4 : Int32) (w0 : OwnV) (w1 : Nat) (w2 : RowsT) (w3 : Nat → Int32) (w4 : Nat) (w5 : RowsT) (w6 : Nat) (w7 : RowsT) (c : Nat) (s : Nat) => L_drawn_29 L xs 0 x3 m x4 w0 w1 w2 w3 w4 w5 w6 w7 c s) x3 (I (k : Int)) z' 0 (I (k : Int)) o 0 rr0 (fun _ => 0) k R 0 rr0 (fun _ => 0) (c + 1) (s + 5) = (if Own_rooms o = 1 then L_drawn_128 L xs 0 x3 0 FU 0 o 0 rr0 (fun _ => 0) nR R2 0 rr0 (c + (q + 1)) (s + 5 * (q + 1)) else Option.bind (L_most (x3 >>> (9 &&& 31)) 11) fun p120 => L_drawn_128 L xs 0 x3 p120 FU 0 o 0 rr0 (fun _ => 0) nR R2 0 rr0 (c + (q + 1)) (s + 5 * (q + 1))) ∧ DRR nR R2 := by
      intro z z' hz hz9
      obtain ⟨X, hX⟩ : ∃ X, X = upd (upd (upd (upd (upd (fun _ => (0 : Int32)) 0 z') 1 0) 2 (-1)) 3 0) 4 0 := ⟨_, rfl⟩
      have X0 : X 0 = I (z : Int) := by rw [hX, upd_n (by omega), upd_n (by omega), upd_n (by omega), upd_n (by omega), upd_i, hz]
      obtain ⟨R2, r1, r2⟩ := ih (k + 1) m (rrApp R 5 X) (c + 1) (s + 5) (by omega) (by omega) (drr_app hr X0 hz9) (by omega) (by omega)
      refine ⟨R2, ?_, r2⟩
      unfold L_drawn_78
      rw [gd_t (by decide), nmL_e, gd_t (by decide), nmL_e, gd_t (by decide), nmL_e, gd_t (by decide), nmL_e, gd_t (by decide), nmL_e, cl0, cl1, cl2, cl3, cl4, ← hX, gd_I (by omega) (by omega) (by omega), I_clamp k (by omega), gd_d ⟨rfl, hr.1.symm⟩, nmL_e, nmL_e, nmL_e, I_succ]
      rw [show c + (q + 1) = c + 1 + q by omega, show s + 5 * (q + 1) = s + 5 + 5 * q by omega]
      exact r1
    have hhead : L_drawn_29 L xs 0 x3 (m + 1) (I (k : Int)) o 0 rr0 (fun _ => 0) k R 0 rr0 c s = if I (p : Int) = 0 then L_drawn_78 L xs 0 (fun (x4 : Int32) (w0 : OwnV) (w1 : Nat) (w2 : RowsT) (w3 : Nat → Int32) (w4 : Nat) (w5 : RowsT) (w6 : Nat) (w7 : RowsT) (c : Nat) (s : Nat) => L_drawn_29 L xs 0 x3 m x4 w0 w1 w2 w3 w4 w5 w6 w7 c s) x3 (I (k : Int)) 99 0 (I (k : Int)) o 0 rr0 (fun _ => 0) k R 0 rr0 (fun _ => 0) (c + 1) (s + 5) else L_drawn_78 L xs 0 (fun (x4 : Int32) (w0 : OwnV) (w1 : Nat) (w2 : RowsT) (w3 : Nat → Int32) (w4 : Nat) (w5 : RowsT) (w6 : Nat) (w7 : RowsT) (c : Nat) (s : Nat) => L_drawn_29 L xs 0 x3 m x4 w0 w1 w2 w3 w4 w5 w6 w7 c s) x3 (I (k : Int)) (I (y : Int)) 0 (I (k : Int)) o 0 rr0 (fun _ => 0) k R 0 rr0 (fun _ => 0) (c + 1) (s + 5) := by
      rw [L_drawn_29, if_neg (show ¬ Own_rooms o ≤ I (k : Int) by rw [hR]; exact I_le_f (by omega) (by omega) (by omega)), gd_d ⟨by omega, by omega⟩, show (3 : Int32) = I ((3 : Nat) : Int) from rfl]
      have p2' : L_most (x3 >>> ((I ((3 : Nat) : Int) + I (k : Int)) &&& 31)) (I ((3 : Nat) : Int)) = some (I (p : Int)) := p2
      rw [p2', bind_s, show (7 : Int32) = I ((7 : Nat) : Int) from rfl, y2, bind_s]
    rw [hhead]
    by_cases cp : p = 0
    · subst cp
      rw [if_pos Iz]
      exact step 99 99 rfl (by omega)
    · rw [if_neg (show ¬ I (p : Int) = 0 from I_ne (b := 0) (by omega) (by omega) (by omega) (by omega) (by omega))]
      exact step y (I (y : Int)) rfl (by omega)
/-- a house is drawn -/
theorem drawn_q (hL : L ≤ 100000) (xs : Nat → Int32) : ∃ o nD D nR R nG W F, L_drawn L xs 0 = some (o, nD, D, nR, R, nG, W, F) ∧ OC o nD D nR R nG W F nR nD nG (rA D) (rB D) (rO D) (rA R) W.2.1 (rF F) (rW W) ∧ Own_minute o = 0 := by
  obtain ⟨x, hx⟩ := cell_s hL xs (a := 0) (by omega)
  obtain ⟨r, r1, r2⟩ := most_s x (m := 6) (by omega) (by omega)
  obtain ⟨o, ho⟩ : ∃ o, o = Own_set_rooms Own0 (1 + I (r : Int)) := ⟨_, rfl⟩
  have hR : Own_rooms o = I ((r + 1 : Nat) : Int) := by
    rw [ho]
    show 1 + I (r : Int) = _
    rw [I1, I_add]
    congr 1
    omega
  have hg0 : Own_guards o = 0 := by rw [ho]; rfl
  have hm0 : Own_minute o = 0 := by rw [ho]; rfl
  have hd0 : Own_doors o = 0 := by rw [ho]; rfl
  obtain ⟨R, e1, e2⟩ := d29 (L := L) (xs := xs) (x3 := x) (by omega) (by omega : r + 1 ≤ 6) hR (r + 1) 0 FU rr0 (0 + 1 + 4) (0 + 8 + 40) (by omega) (by unfold FU; omega) ⟨rfl, fun q hq => absurd hq (by omega)⟩ (by omega) (by omega)
  have hz : DRD (r + 1) o 0 rr0 := ⟨⟨hd0, rfl, rfl, fun q hq => absurd hq (by omega)⟩, fun q hq => absurd hq (by omega)⟩
  have fin : ∀ (N : Nat), N ≤ 10 → (N = 0 ∨ 2 ≤ r + 1) → ∃ o2 nD D nG W F, L_drawn_128 L xs 0 x (I (N : Int)) FU 0 o 0 rr0 (fun _ => 0) (r + 1) R 0 rr0 (0 + 1 + 4 + (r + 1)) (0 + 8 + 40 + 5 * (r + 1)) = some (o2, nD, D, r + 1, R, nG, W, F) ∧ OC o2 nD D (r + 1) R nG W F (r + 1) nD nG (rA D) (rB D) (rO D) (rA R) W.2.1 (rF F) (rW W) ∧ Own_minute o2 = 0 := by
    intro N hN hN2
    obtain ⟨o2, W2, F2, nG, D2, z1, z2, z3, z4, z5, z6⟩ := d128 (xs := xs) (x3 := x) (Rr := R) (nr := r + 1) hL (by omega) (by omega : r + 1 ≤ 6) hN hN2 N 0 FU o rr0 (0 + 1 + 4 + (r + 1)) (0 + 8 + 40 + 5 * (r + 1)) (by omega) (by unfold FU; omega) hR hg0 hm0 hz (by omega) (by omega)
    refine ⟨o2, N, D2, nG, W2, F2, z1, ⟨z5.1, ⟨z3, rfl, e2.1, by omega, by omega, e2.2⟩, z6.1, fun q hq => ⟨(z6.2 q hq).1, (z6.2 q hq).2.1⟩, hN, z2, z5.2, fun q hq => ⟨(z6.2 q hq).2.2.1, (z6.2 q hq).2.2.2.1, (z6.2 q hq).2.2.2.2⟩⟩, z4⟩
  have hhead : L_drawn L xs 0 = (if Own_rooms o = 1 then L_drawn_128 L xs 0 x 0 FU 0 o 0 rr0 (fun _ => 0) (r + 1) R 0 rr0 (0 + 1 + 4 + (r + 1)) (0 + 8 + 40 + 5 * (r + 1)) else Option.bind (L_most (x >>> (9 &&& 31)) 11) fun p120 => L_drawn_128 L xs 0 x p120 FU 0 o 0 rr0 (fun _ => 0) (r + 1) R 0 rr0 (0 + 1 + 4 + (r + 1)) (0 + 8 + 40 + 5 * (r + 1))) := by
    rw [← e1]
    unfold L_drawn
    have hx' : L_cell L xs 0 = some x := hx
    have r2' : L_most x 6 = some (I (r : Int)) := r2
    rw [gd_t (by decide), gd_t (by decide), hx', bind_s, r2', bind_s, nmL_e, ← ho]
    rfl
  rw [hhead]
  by_cases c1 : r = 0
  · obtain ⟨o2, nD, D, nG, W, F, z1, z2, z3⟩ := fin 0 (by omega) (Or.inl rfl)
    refine ⟨o2, nD, D, r + 1, R, nG, W, F, ?_, z2, z3⟩
    rw [if_pos (by rw [hR, c1]; rfl)]
    exact z1
  · obtain ⟨N, n1, n2⟩ := most_s (x >>> (9 &&& 31)) (m := 11) (by omega) (by omega)
    obtain ⟨o2, nD, D, nG, W, F, z1, z2, z3⟩ := fin N (by omega) (Or.inr (by omega))
    refine ⟨o2, nD, D, r + 1, R, nG, W, F, ?_, z2, z3⟩
    have n2' : L_most (x >>> (9 &&& 31)) 11 = some (I (N : Int)) := n2
    rw [if_neg (by rw [hR]; exact I_ne (b := 1) (by omega) (by omega) (by omega) (by omega) (by omega)), n2', bind_s]
    exact z1
end DRAWNX
