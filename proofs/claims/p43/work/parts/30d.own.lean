section OWND
variable {o : OwnV} {nd nr nw : Nat} {D R W : RowsT} {F : Nat → Int32} {v : HouseV}
theorem most_s (x : Int32) {m : Nat} (h1 : 1 ≤ m) (h2 : m ≤ 1000) : ∃ k : Nat, k < m ∧ L_most x (I (m : Int)) = some (I (k : Int)) := by
  obtain ⟨a, ha, ha2⟩ : ∃ a : Nat, x &&& 2147483647 = I (a : Int) ∧ a ≤ 2147483647 := by
    refine ⟨(x &&& 2147483647).toBitVec.toNat, ?_, ?_⟩
    · rw [I_ofNat]
      apply Int32.toBitVec_inj.mp
      show (x &&& 2147483647).toBitVec = BitVec.ofNat 32 (x &&& 2147483647).toBitVec.toNat
      rw [BitVec.ofNat_toNat, BitVec.setWidth_eq]
    · have h : (x &&& 2147483647).toBitVec = x.toBitVec &&& 2147483647#32 := rfl
      rw [h, BitVec.toNat_and]
      have : x.toBitVec.toNat &&& (2147483647#32).toNat ≤ (2147483647#32).toNat := Nat.and_le_right
      have h2 : (2147483647#32).toNat = 2147483647 := rfl
      omega
  refine ⟨a % m, Nat.mod_lt _ (by omega), ?_⟩
  unfold L_most
  rw [gd_t (nz_I (by omega) (by omega)), ha, I_rem (by omega) (by omega) (by omega) (by omega), ← Int.natCast_emod]
/-! a copy -/
theorem ocp110 {n : Nat} {P : Nat → Nat} {Wk : Nat → Nat → Nat} (h : WC o nw W n P Wk) (hn : n ≤ 4) {w0 : OwnV} {w1 w4 : Nat} {w2 w5 : RowsT} {w3 : Nat → Int32} {c s : Nat} (hc : c + 1 ≤ 64) (hs : s + 4 ≤ 600) : ∀ (q k m : Nat), n = k + q → q < m → Own_copy_110 o nd D nr R nw W F m (I (k : Int)) w0 w1 w2 w3 w4 w5 k c s = some (w0, w1, w2, w4, w5, n, F) := by
  obtain ⟨h1, h2, h3, h4⟩ := h
  intro q
  induction q with
  | zero =>
    intro k m hk hm
    obtain ⟨m, rfl⟩ : ∃ q, m = q + 1 := ⟨m - 1, by omega⟩
    rw [Own_copy_110, h1, if_pos (I_le_t (by omega) (by omega) (by omega)), gd_d ⟨hc, hs⟩, show k = n by omega]
  | succ q ih =>
    intro k m hk hm
    obtain ⟨m, rfl⟩ : ∃ q, m = q + 1 := ⟨m - 1, by omega⟩
    rw [Own_copy_110, h1, if_neg (I_le_f (by omega) (by omega) (by omega)), gd_I (by omega) (by omega) (by omega), I_clamp k (by omega), gd_d (by omega), gd_d rfl, gd_d (by omega), nmL_e, nmL_e, I_succ]
    exact ih (k + 1) m (by omega) (by omega)
theorem ocp76 {n : Nat} {P : Nat → Nat} {Wk : Nat → Nat → Nat} (h : WC o nw W n P Wk) (hn : n ≤ 4) (hr : RC o nr R v) {w0 : OwnV} {w1 : Nat} {w2 : RowsT} {w3 : Nat → Int32} : ∀ (q k m c s : Nat) (w5 : RowsT), hR v = k + q → q < m → w5.1 = k → c ≤ 15 + k → s ≤ 78 + 5 * k → ∃ w4' w5', Own_copy_76 o nd D nr R nw W F m (I (k : Int)) w0 w1 w2 w3 k w5 0 c s = some (w0, w1, w2, w4', w5', n, F) := by
  obtain ⟨a1, a2, a3, a4, a5, a6⟩ := hr
  intro q
  induction q with
  | zero =>
    intro k m c s w5 hk hm h5 hc hs
    obtain ⟨m, rfl⟩ : ∃ q, m = q + 1 := ⟨m - 1, by omega⟩
    rw [Own_copy_76, a1, if_pos (I_le_t (by omega) (by omega) (by omega)), I_zero, ocp110 h hn (by omega) (by omega) n 0 FU (by omega) (by unfold FU; omega)]
    exact ⟨_, _, rfl⟩
  | succ q ih =>
    intro k m c s w5 hk hm h5 hc hs
    obtain ⟨m, rfl⟩ : ∃ q, m = q + 1 := ⟨m - 1, by omega⟩
    obtain ⟨b1, b2, b3⟩ := a6 k (by omega)
    rw [Own_copy_76, a1, if_neg (I_le_f (by omega) (by omega) (by omega)), gd_I (by omega) (by omega) (by omega), I_clamp k (by omega), gd_d (by omega), gd_d (by omega), b1, gd_d ⟨by omega, by omega⟩, gd_d ⟨rfl, h5.symm⟩, nmL_e, nmL_e, nmL_e, I_succ]
    exact ih (k + 1) m (c + 1) (s + 5) _ (by omega) (by omega) (by show w5.1 + 1 = k + 1; rw [h5]) (by omega) (by omega)
theorem ocp42 {n : Nat} {P : Nat → Nat} {Wk : Nat → Nat → Nat} (h : WC o nw W n P Wk) (hn : n ≤ 4) (hr : RC o nr R v) {N : Nat} {A B : Nat → Nat} {O : Nat → Bool} (hd : DC o nd D N A B O) (hN : N ≤ 10) {w0 : OwnV} {w3 : Nat → Int32} {w5 : RowsT} (h5 : w5.1 = 0) : ∀ (q k m c s : Nat) (w2 : RowsT), N = k + q → q < m → w2.1 = k → c ≤ 5 + k → s ≤ 48 + 3 * k → ∃ w1' w2' w4' w5', Own_copy_42 o nd D nr R nw W F m (I (k : Int)) w0 k w2 w3 0 w5 0 c s = some (w0, w1', w2', w4', w5', n, F) := by
  obtain ⟨a1, a2, a3, a4⟩ := hd
  intro q
  induction q with
  | zero =>
    intro k m c s w2 hk hm h2 hc hs
    obtain ⟨m, rfl⟩ : ∃ q, m = q + 1 := ⟨m - 1, by omega⟩
    have a5 := hr.2.2.2.2.1
    obtain ⟨x1, x2, e⟩ := ocp76 (nd := nd) (D := D) (F := F) h hn hr (w0 := w0) (w1 := k) (w2 := w2) (w3 := w3) (hR v) 0 FU c s w5 (by omega) (by unfold FU; omega) h5 (by omega) (by omega)
    rw [Own_copy_42, a1, if_pos (I_le_t (by omega) (by omega) (by omega)), I_zero, e]
    exact ⟨_, _, _, _, rfl⟩
  | succ q ih =>
    intro k m c s w2 hk hm h2 hc hs
    obtain ⟨m, rfl⟩ : ∃ q, m = q + 1 := ⟨m - 1, by omega⟩
    obtain ⟨b1, b2, b3⟩ := a4 k (by omega)
    rw [Own_copy_42, a1, if_neg (I_le_f (by omega) (by omega) (by omega)), gd_I (by omega) (by omega) (by omega), I_clamp k (by omega), gd_d (by omega), gd_d (by omega), b1, gd_d ⟨by omega, by omega⟩, gd_d ⟨rfl, h2.symm⟩, nmL_e, nmL_e, nmL_e, I_succ]
    exact ih (k + 1) m (c + 1) (s + 3) _ (by omega) (by omega) (by show w2.1 + 1 = k + 1; rw [h2]) (by omega) (by omega)
theorem ocopy_s {n : Nat} {P : Nat → Nat} {Wk : Nat → Nat → Nat} (h : WC o nw W n P Wk) (hn : n ≤ 4) (hr : RC o nr R v) {N : Nat} {A B : Nat → Nat} {O : Nat → Bool} (hd : DC o nd D N A B O) (hN : N ≤ 10) : ∃ o' w1' w2' w4' w5', Own_copy o nd D nr R nw W F = some (o', w1', w2', w4', w5', n, F) ∧ Own_rooms o' = Own_rooms o ∧ Own_guards o' = Own_guards o := by
  unfold Own_copy
  rw [gd_d ⟨by omega, by omega⟩, gd_d ⟨by omega, by omega⟩, nmL_e, nmL_e, nmL_e, nmL_e, I_zero]
  obtain ⟨w1', w2', w4', w5', e⟩ := ocp42 (F := F) h hn hr hd hN (w0 := Own_set_minute (Own_set_guards (Own_set_doors (Own_set_rooms Own0 (Own_rooms o)) (Own_doors o)) (Own_guards o)) (Own_minute o)) (w3 := fun _ => I ((0 : Nat) : Int)) (w5 := rr0) rfl N 0 FU (0 + 1 + 4) (0 + 8 + 40) rr0 (by omega) (by unfold FU; omega) rfl (by omega) (by omega)
  exact ⟨_, w1', w2', w4', w5', e, rfl, rfl⟩
/-! the best phases -/
theorem prd_4 {r : Nat → Nat} {k : Nat} (h : ∀ g, g < k → 1 ≤ r g ∧ r g ≤ 4) : 1 ≤ prd r k ∧ prd r k ≤ 4 ^ k := by
  induction k with
  | zero => exact ⟨Nat.le_refl _, Nat.le_refl _⟩
  | succ k ih =>
    obtain ⟨h1, h2⟩ := ih fun g hg => h g (by omega)
    obtain ⟨h3, h4⟩ := h k (by omega)
    exact ⟨Nat.mul_pos h1 h3, by rw [prd, Nat.pow_succ]; exact Nat.mul_le_mul h2 h4⟩
theorem digits {r : Nat → Nat} : ∀ (k c : Nat), (∀ g, g < k → 1 ≤ r g) → c < prd r k → ∃ φ : Nat → Nat, box r φ k ∧ val r φ k = c
  | 0, c, _, hc => ⟨fun _ => 0, fun g hg => absurd hg (by omega), by
      have : c < 1 := hc
      show (0 : Nat) = c
      omega⟩
  | k + 1, c, hr, hc => by
    have hk := hr k (by omega)
    have hdiv : c / r k < prd r k := by
      rw [prd] at hc
      exact Nat.div_lt_of_lt_mul (by rw [Nat.mul_comm]; exact hc)
    obtain ⟨φ, b, e⟩ := digits k (c / r k) (fun g hg => hr g (by omega)) hdiv
    refine ⟨fun g => if g = k then c % r k else φ g, fun g hg => ?_, ?_⟩
    · by_cases h : g = k
      · show (if g = k then c % r k else φ g) < r g
        rw [if_pos h, h]
        exact Nat.mod_lt _ (by omega)
      · show (if g = k then c % r k else φ g) < r g
        rw [if_neg h]
        exact b g (by omega)
    · have e2 : val r (fun g => if g = k then c % r k else φ g) k = val r φ k := val_congr fun g hg => if_neg (by omega)
      rw [val, e2, e]
      show c / r k * r k + (if k = k then c % r k else φ k) = c
      rw [if_pos rfl, Nat.mul_comm]
      exact Nat.div_add_mod c (r k)
theorem prd_mono {r : Nat → Nat} (k : Nat) : ∀ j, (∀ g, g < k + j → 1 ≤ r g) → prd r k ≤ prd r (k + j)
  | 0, _ => Nat.le_refl _
  | j + 1, hg => by
    have h3 := prd_mono k j fun g hq => hg g (by omega)
    have h4 : prd r (k + j) ≤ prd r (k + (j + 1)) := by
      rw [show k + (j + 1) = (k + j) + 1 by omega, prd]
      exact Nat.le_mul_of_pos_right _ (hg (k + j) (by omega))
    omega
theorem val_div {r φ : Nat → Nat} {k : Nat} (h : φ k < r k) : val r φ (k + 1) / r k = val r φ k ∧ val r φ (k + 1) % r k = φ k := by
  rw [val]
  constructor
  · rw [Nat.mul_comm, Nat.mul_add_div (by omega), Nat.div_eq_of_lt h, Nat.add_zero]
  · rw [Nat.mul_comm, Nat.mul_add_mod, Nat.mod_eq_of_lt h]
section
variable {n : Nat} {P : Nat → Nat} {Wk : Nat → Nat → Nat}
/-- the phases of the number are set, the last guard first -/
theorem obst59 (h : WC o nw W n P Wk) (hn : n ≤ 4) (hv : prd P n ≤ 100000) {φ : Nat → Nat} (hb : box P φ n) {x3 x4 : Int32} {k41 : Int32 → OwnV → Nat → RowsT → (Nat → Int32) → Nat → RowsT → Nat → (Nat → Int32) → Nat → Nat → Option (Nat → Int32)} {w0 : OwnV} {w1 w4 w6 c s : Nat} {w2 w5 : RowsT} {w7 : Nat → Int32} : ∀ (k m : Nat) (w3 : Nat → Int32), k ≤ n → k < m → (∀ g, k ≤ g → g < n → w3 g = I (φ g : Int)) → ∃ (w3' : Nat → Int32) (m' : Nat), (∀ g, g < n → w3' g = I (φ g : Int)) ∧ Own_best_59 o nd D nr R nw W F x3 x4 k41 m (I (val P φ k : Int)) (I ((k : Int) - 1)) w0 w1 w2 w3 w4 w5 w6 w7 c s = Own_best_59 o nd D nr R nw W F x3 x4 k41 (m' + 1) (I 0) (I (-1)) w0 w1 w2 w3' w4 w5 w6 w7 c s := by
  have hpr : ∀ k, k ≤ n → prd P k ≤ prd P n := fun k hk => by
    have := prd_mono (r := P) k (n - k) fun g hg => (h.per g (by omega)).1
    rw [show k + (n - k) = n by omega] at this
    exact this
  obtain ⟨h1, h2, h3, h4⟩ := id h
  intro k
  induction k with
  | zero =>
    intro m w3 hk hm hw
    obtain ⟨m, rfl⟩ : ∃ q, m = q + 1 := ⟨m - 1, by omega⟩
    exact ⟨w3, m, fun g hg => hw g (by omega) hg, rfl⟩
  | succ k ih =>
    intro m w3 hk hm hw
    obtain ⟨m, rfl⟩ : ∃ q, m = q + 1 := ⟨m - 1, by omega⟩
    obtain ⟨r1, r2, r3, r4⟩ := h4 k (by omega)
    have hvl : val P φ (k + 1) < prd P (k + 1) := val_lt fun g hg => hb g (by omega)
    have hpl := hpr (k + 1) (by omega)
    obtain ⟨d1, d2⟩ := val_div (r := P) (φ := φ) (k := k) (hb k (by omega))
    obtain ⟨w3', m', e1, e2⟩ := ih m (upd w3 k (I (φ k : Int))) (by omega) (by omega) (fun g g1 g2 => by
      by_cases e : g = k
      · rw [e, upd_i]
      · rw [upd_n e]; exact hw g (by omega) g2)
    refine ⟨w3', m', e1, ?_⟩
    rw [Own_best_59, show ((k + 1 : Nat) : Int) - 1 = (k : Int) by omega, if_neg (show ¬ I (k : Int) < 0 from I_lt_f (b := 0) (by omega) (by omega) (by omega)), gd_I (by omega) (by omega) (by omega), I_clamp k (by omega), gd_d (by omega), gd_d (by omega), r1, nI_e, gd_t (nz_I (by omega) (by omega)), nmL_e, nmL_e, nmL_e, I_rem (by omega) (by omega) (by omega) (by omega), I_div (by omega) (by omega) (by omega) (by omega), ← Int.natCast_emod, ← Int.natCast_ediv, d1, d2, Im1, I_add, show (k : Int) + -1 = (k : Int) - 1 by omega]
    exact e2
theorem obst59z (h : WC o nw W n P Wk) (hn : n ≤ 4) (hv : prd P n ≤ 100000) {φ : Nat → Nat} (hb : box P φ n) (hz : val P φ n = 0) {x3 x4 : Int32} {k41 : Int32 → OwnV → Nat → RowsT → (Nat → Int32) → Nat → RowsT → Nat → Nat → Nat → Option (Nat → Int32)} {w0 : OwnV} {w1 w4 w6 c s : Nat} {w2 w5 : RowsT} : ∀ (k m : Nat) (w3 : Nat → Int32), k ≤ n → k < m → val P φ k = 0 → (∀ g, k ≤ g → g < n → w3 g = I (φ g : Int)) → ∃ (w3' : Nat → Int32) (m' : Nat), (∀ g, g < n → w3' g = I (φ g : Int)) ∧ Own_best_59z2c41z2 o nd D nr R nw W F x3 x4 k41 m (I (val P φ k : Int)) (I ((k : Int) - 1)) w0 w1 w2 w3 w4 w5 w6 c s = Own_best_59z2c41z2 o nd D nr R nw W F x3 x4 k41 (m' + 1) (I 0) (I (-1)) w0 w1 w2 w3' w4 w5 w6 c s := by
  obtain ⟨h1, h2, h3, h4⟩ := id h
  intro k
  induction k with
  | zero =>
    intro m w3 hk hm hz0 hw
    obtain ⟨m, rfl⟩ : ∃ q, m = q + 1 := ⟨m - 1, by omega⟩
    exact ⟨w3, m, fun g hg => hw g (by omega) hg, rfl⟩
  | succ k ih =>
    intro m w3 hk hm hz0 hw
    obtain ⟨m, rfl⟩ : ∃ q, m = q + 1 := ⟨m - 1, by omega⟩
    obtain ⟨r1, r2, r3, r4⟩ := h4 k (by omega)
    obtain ⟨d1, d2⟩ := val_div (r := P) (φ := φ) (k := k) (hb k (by omega))
    have hz1 : val P φ k = 0 := by rw [← d1, hz0, Nat.zero_div]
    obtain ⟨w3', m', e1, e2⟩ := ih m (upd w3 k (I (φ k : Int))) (by omega) (by omega) hz1 (fun g g1 g2 => by
      by_cases e : g = k
      · rw [e, upd_i]
      · rw [upd_n e]; exact hw g (by omega) g2)
    refine ⟨w3', m', e1, ?_⟩
    rw [Own_best_59z2c41z2, show ((k + 1 : Nat) : Int) - 1 = (k : Int) by omega, if_neg (show ¬ I (k : Int) < 0 from I_lt_f (b := 0) (by omega) (by omega) (by omega)), gd_I (by omega) (by omega) (by omega), I_clamp k (by omega), gd_d (by omega), gd_d (by omega), r1, nI_e, gd_t (nz_I (by omega) (by omega)), nmL_e, nmL_e, nmL_e, I_rem (by omega) (by omega) (by omega) (by omega), I_div (by omega) (by omega) (by omega) (by omega), ← Int.natCast_emod, ← Int.natCast_ediv, d1, d2, Im1, I_add, show (k : Int) + -1 = (k : Int) - 1 by omega]
    exact e2
end
/-- other phases in a copy -/
theorem ow_HS (h : OW o nw W F v) {o' : OwnV} (hg : Own_guards o' = Own_guards o) {φ : Nat → Nat} (hb : box (hP v) φ (hG v)) {w3 : Nat → Int32} (h3 : ∀ g, g < hG v → w3 g = I (φ g : Int)) : OW o' (hG v) W w3 (HS v φ) := by
  obtain ⟨⟨a1, a2, a3, a4⟩, b, c, d, e⟩ := h
  have hl : ∀ g, g < hG v → φ g < 100 := fun g hg => by
    have := hb g hg
    have := e g hg
    omega
  refine ⟨⟨by rw [HS_G, hg]; exact a1, rfl, by rw [HS_G]; exact a3, fun g hg => ?_⟩, fun g hg => ?_, by rw [HS_G]; exact c, HS_wf d hb, fun g hg => ?_⟩
  · rw [HS_G] at hg
    exact a4 g hg
  · rw [HS_G] at hg
    rw [HS_F (hl g hg)]
    exact h3 g hg
  · rw [HS_G] at hg
    rw [HS_P]
    exact e g hg
/-- the row of the best phases -/
def BROW (B : Nat → Int32) (v : HouseV) (β : Nat → Nat) : Prop := B 0 = I (EV v β).1 ∧ B 1 = I (EV v β).2 ∧ ∀ g, g < hG v → B (2 + g) = I (β g : Int)
theorem brow_new {x6 x7 : Int32} {w3 : Nat → Int32} {φ : Nat → Nat} (h4 : hG v ≤ 4) (h6 : x6 = I (EV v φ).1) (h7 : x7 = I (EV v φ).2) (h3 : ∀ g, g < hG v → w3 g = I (φ g : Int)) : BROW (upd (upd (upd (upd (upd (upd (fun _ => 0) 0 x6) 1 x7) 2 (w3 0)) 3 (w3 1)) 4 (w3 2)) 5 (w3 3)) v φ := by
  refine ⟨?_, ?_, fun g hg => ?_⟩
  · rw [upd_n (by omega), upd_n (by omega), upd_n (by omega), upd_n (by omega), upd_n (by omega), upd_i, h6]
  · rw [upd_n (by omega), upd_n (by omega), upd_n (by omega), upd_n (by omega), upd_i, h7]
  · rw [← h3 g hg]
    obtain e | e | e | e : g = 0 ∨ g = 1 ∨ g = 2 ∨ g = 3 := by omega
    · rw [e, upd_n (by omega), upd_n (by omega), upd_n (by omega), upd_i]
    · rw [e, upd_n (by omega), upd_n (by omega), upd_i]
    · rw [e, upd_n (by omega), upd_i]
    · rw [e, upd_i]
theorem EV_b12 (h : OW o nw W F v) {φ : Nat → Nat} (hb : box (hP v) φ (hG v)) : 0 ≤ (EV v φ).1 ∧ (EV v φ).1 ≤ 2520 ∧ 0 ≤ (EV v φ).2 ∧ (EV v φ).2 ≤ 15120 := EV_b h.2.2.2.1 h.2.2.1 hb
theorem obst41 (h : OW o nw W F v) (h6 : hR v ≤ 6) (hro : Own_rooms o = I (hR v : Int)) {o' : OwnV} (hg : Own_guards o' = Own_guards o) (ho : Own_rooms o' = Own_rooms o) {w1 w4 : Nat} {w2 w5 : RowsT} : ∀ (q k m c s : Nat) (w3 B : Nat → Int32) (β : Nat → Nat), prd (hP v) (hG v) = k + q → q < m → 1 ≤ k → c ≤ 64 + 79 * k → s ≤ 600 + 162 * k → BROW B v β → BestIn (EV v) (hP v) (hG v) k β → ∃ B' γ, Own_best_41 o nd D nr R nw W F (I (prd (hP v) (hG v) : Int)) m (I (k : Int)) o' w1 w2 w3 w4 w5 (hG v) B c s = some B' ∧ BROW B' v γ ∧ BestIn (EV v) (hP v) (hG v) (prd (hP v) (hG v)) γ := by
  have h4 := h.2.2.1
  have hpd := prd_4 (r := hP v) (k := hG v) fun g hg => ⟨(h.2.2.2.1.per g hg).1, h.2.2.2.2 g hg⟩
  have h256 : 4 ^ hG v ≤ 256 := Nat.pow_le_pow_right (n := 4) (by decide) h4
  intro q
  induction q with
  | zero =>
    intro k m c s w3 B β hk hm hk1 hc hs hB hI
    obtain ⟨m, rfl⟩ : ∃ q, m = q + 1 := ⟨m - 1, by omega⟩
    rw [Own_best_41, if_pos (I_le_t (by omega) (by omega) (by omega))]
    exact ⟨B, β, rfl, hB, by rw [show prd (hP v) (hG v) = k by omega]; exact hI⟩
  | succ q ih =>
    intro k m c s w3 B β hk hm hk1 hc hs hB hI
    obtain ⟨m, rfl⟩ : ∃ q, m = q + 1 := ⟨m - 1, by omega⟩
    obtain ⟨φ, b1, b2⟩ := digits (r := hP v) (hG v) k (fun g hg => (h.2.2.2.1.per g hg).1) (by omega)
    obtain ⟨w3', m', e1, e2⟩ := obst59 (nd := nd) (D := D) (nr := nr) (R := R) (F := F) h.1 h4 (by omega) b1 (x3 := I (prd (hP v) (hG v) : Int)) (x4 := I (k : Int)) (k41 := fun x4 w0 w1 w2 w3 w4 w5 w6 w7 c s => Own_best_41 o nd D nr R nw W F (I (prd (hP v) (hG v) : Int)) m x4 w0 w1 w2 w3 w4 w5 w6 w7 c s) (w0 := o') (w1 := w1) (w4 := w4) (w6 := hG v) (c := c) (s := s) (w2 := w2) (w5 := w5) (w7 := B) (hG v) FU w3 (Nat.le_refl _) (by unfold FU; omega) (fun g g1 g2 => absurd g1 (by omega))
    rw [b2] at e2
    have hHS := ow_HS h hg b1 e1
    have eW : Own_worst o' (hG v) W w3' = some (I (EV v φ).1) := oworst_s hHS (by rw [HS_R, ho]; exact hro) (by rw [HS_R]; exact h6)
    have eX : Own_crossings o' (hG v) W w3' = some (I (EV v φ).2) := ocross_s hHS
    have hE1 := EV_b12 h b1
    have hE2 := EV_b12 h hI.1
    obtain ⟨p1, p2, p3⟩ := hB
    have hg1 : Own_guards o = I (hG v : Int) := h.1.1
    rw [Own_best_41, if_neg (I_le_f (by omega) (by omega) (by omega)), nmL_e, hg1, I1, I_sub]
    rw [show (fun (x4 : Int32) (w0 : OwnV) (w1 : Nat) (w2 : RowsT) (w3 : Nat → Int32) (w4 : Nat) (w5 : RowsT) (w6 : Nat) (w7 : Nat → Int32) (c : Nat) (s : Nat) => Own_best_41 o nd D nr R nw W F (I (prd (hP v) (hG v) : Int)) m x4 w0 w1 w2 w3 w4 w5 w6 w7 c s) = (fun x4 w0 w1 w2 w3 w4 w5 w6 w7 c s => Own_best_41 o nd D nr R nw W F (I (prd (hP v) (hG v) : Int)) m x4 w0 w1 w2 w3 w4 w5 w6 w7 c s) from rfl, e2, Own_best_59, if_pos (by decide), gd_d ⟨by omega, by omega⟩, eW, bind_s, gd_t (by decide), cl0, p1]
    have hnew : ∀ (c s : Nat), c + 1 ≤ 64 + 79 * (k + 1) → s + 6 ≤ 600 + 162 * (k + 1) → eLt (EV v φ) (EV v β) → ∃ B' γ, Own_best_148 o nd D nr R nw W F (fun x4 w0 w1 w2 w3 w4 w5 w6 w7 c s => Own_best_41 o nd D nr R nw W F (I (prd (hP v) (hG v) : Int)) m x4 w0 w1 w2 w3 w4 w5 w6 w7 c s) (I (prd (hP v) (hG v) : Int)) (I (k : Int)) (I (EV v φ).1) (I (EV v φ).2) o' w1 w2 w3' w4 w5 (hG v) c s = some B' ∧ BROW B' v γ ∧ BestIn (EV v) (hP v) (hG v) (prd (hP v) (hG v)) γ := by
      intro c s c1 s1 hlt
      unfold Own_best_148
      rw [gd_d ⟨by omega, by omega⟩, gd_t (by decide), nmL_e, gd_t (by decide), nmL_e, gd_t (by decide), gd_t (by decide), nmL_e, gd_t (by decide), gd_t (by decide), nmL_e, gd_t (by decide), gd_t (by decide), nmL_e, gd_t (by decide), gd_t (by decide), nmL_e, nmL_e, cl0, cl1, cl2, cl3, cl4, cl5, I_succ]
      exact ih (k + 1) m (c + 1) (s + 6) w3' _ φ (by omega) (by omega) (by omega) (by omega) (by omega) (brow_new h4 rfl rfl e1) (best_new EV_congr hI b1 b2 hlt)
    by_cases c1 : (EV v φ).1 ≤ (EV v β).1
    · rw [if_pos (I_le_t (by omega) (by omega) (by omega))]
      unfold Own_best_122
      rw [eX, bind_s, gd_t (by decide), cl0, p1]
      by_cases c2 : (EV v φ).1 < (EV v β).1
      · rw [if_pos (I_lt_t (by omega) (by omega) (by omega))]
        exact hnew _ _ (by omega) (by omega) (Or.inl c2)
      · rw [if_neg (I_lt_f (by omega) (by omega) (by omega)), gd_t (by decide), cl1, p2]
        by_cases c3 : (EV v β).2 ≤ (EV v φ).2
        · rw [if_pos (I_le_t (by omega) (by omega) (by omega)), nmL_e, I_succ]
          exact ih (k + 1) m (c + 78) (s + 156) w3' B β (by omega) (by omega) (by omega) (by omega) (by omega) ⟨p1, p2, p3⟩ (best_same EV_congr hI b1 b2 (by unfold eLt; omega))
        · rw [if_neg (I_le_f (by omega) (by omega) (by omega))]
          exact hnew _ _ (by omega) (by omega) (Or.inr ⟨by omega, by omega⟩)
    · rw [if_neg (I_le_f (by omega) (by omega) (by omega)), nmL_e, I_succ]
      exact ih (k + 1) m (c + 78) (s + 156) w3' B β (by omega) (by omega) (by omega) (by omega) (by omega) ⟨p1, p2, p3⟩ (best_same EV_congr hI b1 b2 (by unfold eLt; omega))
theorem obst12 (h : OW o nw W F v) {o' : OwnV} {w1 w4 : Nat} {w2 w5 : RowsT} {w3 : Nat → Int32} {w6 c s : Nat} : ∀ (q k m : Nat), hG v = k + q → q < m → Own_best_12z2 o nd D nr R nw W F m (I (prd (hP v) k : Int)) (I (k : Int)) o' w1 w2 w3 w4 w5 w6 c s = Own_best_41z2 o nd D nr R nw W F (I (prd (hP v) (hG v) : Int)) FU 0 o' w1 w2 w3 w4 w5 w6 c s := by
  obtain ⟨a1, a2, a3, a4⟩ := h.1
  have h4 := h.2.2.1
  intro q
  induction q with
  | zero =>
    intro k m hk hm
    obtain ⟨m, rfl⟩ : ∃ q, m = q + 1 := ⟨m - 1, by omega⟩
    rw [Own_best_12z2, a1, if_pos (I_le_t (by omega) (by omega) (by omega)), show k = hG v by omega]
  | succ q ih =>
    intro k m hk hm
    obtain ⟨m, rfl⟩ : ∃ q, m = q + 1 := ⟨m - 1, by omega⟩
    obtain ⟨r1, r2, r3, r4⟩ := a4 k (by omega)
    have hh := ih (k + 1) m (by omega) (by omega)
    rw [prd, Int.natCast_mul] at hh
    rw [Own_best_12z2, a1, if_neg (I_le_f (by omega) (by omega) (by omega)), gd_I (by omega) (by omega) (by omega), I_clamp k (by omega), gd_d (by omega), gd_d (by omega), r1, nI_e, nmL_e, nmL_e, I_mul, I_succ]
    exact hh
theorem obst41z (h : OW o nw W F v) (h6 : hR v ≤ 6) (hro : Own_rooms o = I (hR v : Int)) {o' : OwnV} (hg : Own_guards o' = Own_guards o) (ho : Own_rooms o' = Own_rooms o) {w1 w4 : Nat} {w2 w5 : RowsT} {m : Nat} (hm : 0 < m) {w3 : Nat → Int32} : ∃ B γ, Own_best_41z2 o nd D nr R nw W F (I (prd (hP v) (hG v) : Int)) m (I ((0 : Nat) : Int)) o' w1 w2 w3 w4 w5 (hG v) (0 + 64) (0 + 600) = some B ∧ BROW B v γ ∧ BestIn (EV v) (hP v) (hG v) (prd (hP v) (hG v)) γ := by
  have h4 := h.2.2.1
  have hpd := prd_4 (r := hP v) (k := hG v) fun g hg => ⟨(h.2.2.2.1.per g hg).1, h.2.2.2.2 g hg⟩
  have h256 : 4 ^ hG v ≤ 256 := Nat.pow_le_pow_right (n := 4) (by decide) h4
  obtain ⟨m, rfl⟩ : ∃ q, m = q + 1 := ⟨m - 1, by omega⟩
  obtain ⟨φ, b1, b2⟩ := digits (r := hP v) (hG v) 0 (fun g hg => (h.2.2.2.1.per g hg).1) (by omega)
  obtain ⟨w3', m', e1, e2⟩ := obst59z (nd := nd) (D := D) (nr := nr) (R := R) (F := F) h.1 h4 (by omega) b1 b2 (x3 := I (prd (hP v) (hG v) : Int)) (x4 := I ((0 : Nat) : Int)) (k41 := fun x4 w0 w1 w2 w3 w4 w5 w6 c s => Own_best_41z2 o nd D nr R nw W F (I (prd (hP v) (hG v) : Int)) m x4 w0 w1 w2 w3 w4 w5 w6 c s) (w0 := o') (w1 := w1) (w4 := w4) (w6 := hG v) (c := 0 + 64) (s := 0 + 600) (w2 := w2) (w5 := w5) (hG v) FU w3 (Nat.le_refl _) (by unfold FU; omega) b2 (fun g g1 g2 => absurd g1 (by omega))
  rw [b2] at e2
  have hHS := ow_HS h hg b1 e1
  have eW : Own_worst o' (hG v) W w3' = some (I (EV v φ).1) := oworst_s hHS (by rw [HS_R, ho]; exact hro) (by rw [HS_R]; exact h6)
  have eX : Own_crossings o' (hG v) W w3' = some (I (EV v φ).2) := ocross_s hHS
  obtain ⟨B, γ, f1, f2, f3⟩ := obst41 (nd := nd) (D := D) (nr := nr) (R := R) h h6 hro hg ho (w1 := w1) (w4 := w4) (w2 := w2) (w5 := w5) (prd (hP v) (hG v) - 1) 1 FU (0 + 64 + 78 + 1) (0 + 600 + 156 + 6) w3' _ φ (by omega) (by unfold FU; omega) (by omega) (by omega) (by omega) (brow_new h4 rfl rfl e1) (best_first EV_congr b1 b2)
  refine ⟨B, γ, ?_, f2, f3⟩
  rw [Own_best_41z2, if_neg (I_le_f (by omega) (by omega) (by omega)), nmL_e, h.1.1, I1, I_sub]
  refine e2.trans ?_
  rw [Own_best_59z2c41z2, if_pos (by decide), gd_d ⟨by omega, by omega⟩, eW, bind_s]
  unfold Own_best_122z2c41z2
  rw [eX, bind_s]
  unfold Own_best_148c41z2
  rw [gd_d ⟨by omega, by omega⟩, gd_t (by decide), nmL_e, gd_t (by decide), nmL_e, gd_t (by decide), gd_t (by decide), nmL_e, gd_t (by decide), gd_t (by decide), nmL_e, gd_t (by decide), gd_t (by decide), nmL_e, gd_t (by decide), gd_t (by decide), nmL_e, nmL_e, cl0, cl1, cl2, cl3, cl4, cl5, I_succ]
  exact f1
theorem obest_s (h : OW o nw W F v) (hr : RC o nr R v) (hd : DC o nd D (hD v) (hA v) (hB v) (opn v)) (hN : hD v ≤ 10) : ∃ B β, Own_best o nd D nr R nw W F = some B ∧ BROW B v β ∧ BestIn (EV v) (hP v) (hG v) (prd (hP v) (hG v)) β := by
  have h4 := h.2.2.1
  obtain ⟨o', w1, w2, w4, w5, e0, ho, hg⟩ := ocopy_s (F := F) h.1 h4 hr hd hN
  obtain ⟨B, γ, f1, f2, f3⟩ := obst41z (nd := nd) (D := D) (nr := nr) (R := R) h hr.2.2.2.2.1 hr.1 hg ho (w1 := w1) (w4 := w4) (w2 := w2) (w5 := w5) (w3 := F) (m := FU) (by unfold FU; omega)
  refine ⟨B, γ, ?_, f2, f3⟩
  unfold Own_best
  rw [gd_d ⟨by omega, by omega⟩, e0, bind_s]
  dsimp only
  have e12 := obst12 (nd := nd) (D := D) (nr := nr) (R := R) h (o' := o') (w1 := w1) (w4 := w4) (w2 := w2) (w5 := w5) (w3 := F) (w6 := hG v) (c := 0 + 64) (s := 0 + 600) (hG v) 0 FU (by omega) (by unfold FU; omega)
  exact e12.trans f1
/-- the two ways to search find the same phases -/
theorem best_PM (hw : WFG v) {γ β : Nat → Nat} (h1 : BestIn (EV v) (hP v) (hG v) (prd (hP v) (hG v)) γ) (h2 : BestIn (EV v) (rM v) (hG v) (prd (rM v) (hG v)) β) : ∀ g, g < hG v → γ g = β g := by
  have hb : box (rM v) γ (hG v) := by
    intro g hg
    by_cases c : g = 0
    · subst c
      have hp := hw.per 0 hg
      have hx := h1.1 0 hg
      unfold rM
      rw [if_pos rfl]
      apply Classical.byContradiction
      intro hne
      have hbox : box (hP v) (fun g => (γ g + (hP v 0 - γ 0)) % hP v g) (hG v) := fun g hg => Nat.mod_lt _ (hw.per g hg).1
      have hE := EV_shift hw (hP v 0 - γ 0) h1.1
      have h0 : (fun g => (γ g + (hP v 0 - γ 0)) % hP v g) 0 = 0 := by
        show (γ 0 + (hP v 0 - γ 0)) % hP v 0 = 0
        rw [show γ 0 + (hP v 0 - γ 0) = hP v 0 by omega, Nat.mod_self]
      have hv := val_first (r := hP v) (φ := fun g => (γ g + (hP v 0 - γ 0)) % hP v g) (ψ := γ) (g := 0) (k := hG v) (fun h hh => absurd hh (by omega)) (by have h0 : (γ 0 + (hP v 0 - γ 0)) % hP v 0 = 0 := h0; show (γ 0 + (hP v 0 - γ 0)) % hP v 0 < γ 0; omega) hg hbox
      rcases h1.2.2 _ hbox (val_lt hbox) with hl | ⟨-, hl⟩
      · rw [hE] at hl
        rcases hl with hl | ⟨-, hl⟩ <;> omega
      · omega
    · have := h1.1 g hg
      unfold rM
      rw [if_neg c]
      exact this
  exact best_uni h1 h2 hb fun φ hφ => boxM_P hw hφ
end OWND
