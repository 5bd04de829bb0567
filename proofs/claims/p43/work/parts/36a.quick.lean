section QUICK
variable {v : HouseV} {g : GWV} {s : SightV}
theorem and1 (z : Int32) : z &&& 1 = 0 ∨ z &&& 1 = 1 := by
  have h1 : z &&& 1 = I ((z &&& 1).toBitVec.toNat : Int) := by
    rw [I_ofNat]
    apply Int32.toBitVec_inj.mp
    show (z &&& 1).toBitVec = BitVec.ofNat 32 (z &&& 1).toBitVec.toNat
    rw [BitVec.ofNat_toNat, BitVec.setWidth_eq]
  have h2 : (z &&& 1).toBitVec.toNat ≤ 1 := by
    have h : (z &&& 1).toBitVec = z.toBitVec &&& 1#32 := rfl
    rw [h, BitVec.toNat_and]
    have : z.toBitVec.toNat &&& (1#32).toNat ≤ (1#32).toNat := Nat.and_le_right
    have h2 : (1#32).toNat = 1 := rfl
    omega
  obtain e | e : (z &&& 1).toBitVec.toNat = 0 ∨ (z &&& 1).toBitVec.toNat = 1 := by omega
  · left; rw [h1, e]; rfl
  · right; rw [h1, e]; rfl
theorem I_bit {a k : Nat} (ha : a < 2147483648) (hk : k < 32) : ((I (a : Int) >>> (I (k : Int) &&& 31)) &&& 1 = 1) = (a.testBit k = true) := by
  have h := I_has ha hk
  apply propext
  constructor
  · intro e
    cases hb : a.testBit k
    · rw [hb] at h
      have h0 : (I (a : Int) >>> (I (k : Int) &&& 31)) &&& 1 = 0 := by rw [h]
      rw [h0] at e
      exact absurd e (by decide)
    · rfl
  · intro hb
    rcases and1 (I (a : Int) >>> (I (k : Int) &&& 31)) with e | e
    · rw [h, hb] at e
      cases e
    · exact e
theorem firstA_0 {a t : Nat} (h : Sg v a t = true) : firstA v a t = 0 := by
  apply nat_ext
  intro i
  unfold firstA
  rw [sdf_bit, tb_one, Nat.zero_testBit]
  by_cases c : a = i
  · subst c
    rw [show (seen v t).testBit a = true from h, Bool.not_true, Bool.and_false]
  · rw [decide_eq_false c, Bool.false_and]
/-- whoever is hidden is not where a guard is -/
theorem SI_unseen {a t r : Nat} : ∀ k, (SI v t (firstA v a t) k).testBit r = true → Sg v r (t + k) = false
  | 0, h => by
    have h : (firstA v a t).testBit r = true := h
    unfold firstA at h
    rw [sdf_iff] at h
    exact h.2
  | k + 1, h => by
    rw [SI, nx_bit] at h
    exact h.2
theorem SI_DD {a t : Nat} : ∀ k s, (SI v t (firstA v a t) k).testBit s = true → (DD v a k).testBit s = true
  | 0, s, h => by
    have h : (firstA v a t).testBit s = true := h
    unfold firstA at h
    rw [sdf_iff] at h
    exact h.1
  | k + 1, s, h => by
    rw [SI, nx_bit] at h
    rw [DD]
    unfold dn
    rw [or_iff, ors_bit]
    rcases h.1 with h1 | ⟨r, h1, h2, h3, -⟩
    · exact Or.inl (SI_DD k s h1)
    · refine Or.inr ⟨r, h1, ?_⟩
      rw [SI_DD k r h2, bif_t]
      exact h3
theorem quick132 (hv : HOK v) {x1 x2 x5 x6 : Int32} {b t k : Nat} {X : Nat} (hX : X < 2 ^ hR v) (hb : b < hR v) (ht : t + k ≤ 1500000) (hun : ∀ r, X.testBit r = true → Sg v r (t + k) = false) (k111 : Int32 → SightV → IntrV → Option (Bool × SightV × IntrV)) (iv : IntrV) (at_ : Int) (ha1 : -1 ≤ at_) (ha2 : at_ ≤ 2000000) (h5 : x5 = I at_) (hiff : X.testBit b = true ↔ ((t : Int) + k = at_)) : ∀ (q r m : Nat), hR v = r + q → q < m → L_isQuick_132 x1 g v x2 (I (b : Int)) (I (t : Int)) x5 x6 (I (k : Int)) (I (X : Int)) k111 m (I (r : Int)) s iv = k111 (I ((k + 1 : Nat) : Int)) s iv := by
  have hR12 := hv.1.2.2.1
  have hp12 := pow31 hR12
  intro q
  induction q with
  | zero =>
    intro r m hk hm
    obtain ⟨m, rfl⟩ : ∃ q, m = q + 1 := ⟨m - 1, by omega⟩
    rw [L_isQuick_132, size_0, bind_s]
    dsimp only
    rw [hv.1.1, if_pos (I_le_t (by omega) (by omega) (by omega))]
    have e190 : ∀ s0 : Int32, L_isQuick_190 x1 g v k111 x2 (I (b : Int)) (I (t : Int)) x5 x6 (I (k : Int)) s0 s iv = if (t : Int) + k = at_ then L_isQuick_205 x1 g v k111 x2 (I (b : Int)) (I (t : Int)) x5 x6 (I (k : Int)) 1 s0 s iv else L_isQuick_205 x1 g v k111 x2 (I (b : Int)) (I (t : Int)) x5 x6 (I (k : Int)) 0 s0 s iv := fun s0 => by
      unfold L_isQuick_190
      rw [h5, I_add]
      by_cases c : (t : Int) + k = at_
      · rw [if_pos (by rw [c]), if_pos c]
      · rw [if_neg (I_ne c (by omega) (by omega) (by omega) (by omega)), if_neg c]
    by_cases c : X.testBit b = true
    · rw [if_pos (by rw [I_bit (by omega) (by omega)]; exact c), e190, if_pos (hiff.mp c)]
      unfold L_isQuick_205
      rw [if_pos rfl, nmL_e, I_succ]
    · rw [if_neg (by rw [I_bit (by omega) (by omega)]; exact c), e190, if_neg (fun h => c (hiff.mpr h))]
      unfold L_isQuick_205
      rw [if_pos rfl, nmL_e, I_succ]
  | succ q ih =>
    intro r m hk hm
    obtain ⟨m, rfl⟩ : ∃ q, m = q + 1 := ⟨m - 1, by omega⟩
    rw [L_isQuick_132, size_0, bind_s]
    dsimp only
    rw [hv.1.1, if_neg (I_le_f (by omega) (by omega) (by omega))]
    by_cases c : X.testBit r = true
    · rw [if_pos (by rw [I_bit (by omega) (by omega)]; exact c), I_add, ← Int.natCast_add, guardsIn_m hv (by omega) (by omega), bind_s, if_pos (by rw [guardsIn_z hv]; exact hun r c), nmL_e, I_succ]
      exact ih (r + 1) m (by omega) (by omega)
    · rw [if_neg (by rw [I_bit (by omega) (by omega)]; exact c), nmL_e, I_succ]
      exact ih (r + 1) m (by omega) (by omega)
theorem quick111 (hv : HOK v) {x1 : Int32} {a b t : Nat} (ha : a < hR v) (hb : b < hR v) (ht : t ≤ 100) (at_ : Int) (ha1 : -1 ≤ at_) (ha2 : at_ ≤ 1000000) {last : Nat} (hl : last ≤ 100) (hiff : ∀ k, k ≤ last → ((SI v t (firstA v a t) k).testBit b = true ↔ ((t : Int) + k = at_))) (hend : at_ < 0 ∨ ∃ d : Nat, DistIs v a b d ∧ (d : Int) ≤ at_ - t) : ∀ (q k m : Nat) (iv : IntrV), last + 1 = k + q → q < m → ∃ iv', L_isQuick_111 x1 g v (I (a : Int)) (I (b : Int)) (I (t : Int)) (I at_) (I (last : Int)) m (I (k : Int)) s iv = some (true, s, iv') := by
  have hR12 := hv.1.2.2.1
  intro q
  induction q with
  | zero =>
    intro k m iv hk hm
    obtain ⟨m, rfl⟩ : ∃ q, m = q + 1 := ⟨m - 1, by omega⟩
    rw [L_isQuick_111, if_pos (I_lt_t (by omega) (by omega) (by omega))]
    rcases hend with h | ⟨d, h1, h2⟩
    · rw [if_pos (show I at_ < 0 from I_lt_t (b := 0) (by omega) (by omega) (by omega))]
      exact ⟨iv, rfl⟩
    · rw [if_neg (show ¬ I at_ < 0 from I_lt_f (b := 0) (by omega) (by omega) (by omega)), distance_m hv ha hb h1, bind_s, if_neg (show ¬ I (d : Int) < 0 from I_lt_f (b := 0) (by omega) (by omega) (by omega)), bind_s, I_sub, if_neg (I_lt_f h2 (by omega) (by omega))]
      exact ⟨iv, rfl⟩
  | succ q ih =>
    intro k m iv hk hm
    obtain ⟨m, rfl⟩ : ∃ q, m = q + 1 := ⟨m - 1, by omega⟩
    obtain ⟨iv1, e1⟩ := hiding_m (g := g) hv ha (t := t) (k := k) (by omega) (by omega) iv
    obtain ⟨iv2, e2⟩ := ih (k + 1) m iv1 (by omega) (by omega)
    refine ⟨iv2, ?_⟩
    rw [L_isQuick_111, if_neg (I_lt_f (by omega) (by omega) (by omega)), e1, bind_s]
    dsimp only
    have e3 := quick132 (g := g) (s := s) hv (x1 := x1) (x2 := I (a : Int)) (x5 := I at_) (x6 := I (last : Int)) (b := b) (t := t) (k := k) (X := SI v t (firstA v a t) k) (SI_lt hv.2.1 (firstA_lt ha) k) hb (by omega) (fun r hr => SI_unseen k hr) (fun x7 v2 v3 => L_isQuick_111 x1 g v (I (a : Int)) (I (b : Int)) (I (t : Int)) (I at_) (I (last : Int)) m x7 v2 v3) iv1 at_ ha1 (by omega) rfl (hiff k (by omega)) (hR v) 0 FU (by omega) (by unfold FU; omega)
    exact e3.trans e2
theorem isQuick_s (hv : HOK v) (x1 : Int32) (iv : IntrV) : ∃ iv', L_isQuick x1 g v s iv = some (true, s, iv') := by
  have hR12 := hv.1.2.2.1
  have hR1 := hv.1.2.1
  obtain ⟨a, a1, a2⟩ := most_s x1 (m := hR v) hR1 (by omega)
  obtain ⟨b, b1, b2⟩ := most_s (x1 >>> (3 &&& 31)) (m := hR v) hR1 (by omega)
  obtain ⟨t, t1, t2⟩ := most_s (x1 >>> (5 &&& 31)) (m := 50) (by omega) (by omega)
  obtain ⟨res, hres⟩ := arr_ex v t (firstA v a t) b
  obtain ⟨iv1, e1⟩ := arrival_m (g := g) hv a1 b1 (t := t) (by omega) iv hres
  unfold L_isQuick
  rw [size_0, bind_s]
  dsimp only
  rw [hv.1.1, a2, bind_s, size_0, bind_s]
  dsimp only
  rw [hv.1.1, b2, bind_s, show (50 : Int32) = I ((50 : Nat) : Int) from rfl, t2, bind_s, e1, bind_s, guardsIn_m hv a1 (by omega), bind_s]
  cases hS : Sg v a t
  · rw [if_pos (by rw [guardsIn_z hv]; exact hS)]
    rcases hres with ⟨k0, k1, k2, k3⟩ | ⟨k1, k3⟩
    · obtain ⟨-, -, f3⟩ := arr_F hv.2.1 (firstA_lt a1) k1 k2
      have hk0 : k0 ≤ cyc v * hR v := FV_end hv.2.1 hv.2.2.2.2.1 (firstA_lt a1) (k := k0) fun j hj => f3 j (by omega)
      have hc := cyc_le hv.2.2.2.2.1
      have hk1 : cyc v * hR v ≤ 2520 * 12 := Nat.mul_le_mul hc hR12
      have hd : ∃ d : Nat, DistIs v a b d ∧ d ≤ k0 := by
        have hb0 := SI_DD k0 b k1
        obtain ⟨d, d1, d2⟩ := least (P := fun k => (DD v a k).testBit b = true) ⟨k0, hb0⟩
        refine ⟨d, Or.inl ⟨d, d1, fun j hj => ?_, rfl⟩, Nat.le_of_not_lt fun q => d2 k0 q hb0⟩
        cases e : (DD v a j).testBit b
        · rfl
        · exact absurd e (d2 j hj)
      obtain ⟨d, d1, d2⟩ := hd
      rw [if_pos (show (0 : Int32) ≤ I res from I_le_t (a := 0) (by omega) (by omega) (by omega)), nmL_e, I_sub, show (100 : Int32) = I 100 from rfl, imin_I (by omega) (by omega) (by omega) (by omega), show min (100 : Int) (res - t) = ((min 100 k0 : Nat) : Int) by omega, I_zero]
      exact quick111 hv a1 b1 (by omega) res (by omega) (by omega) (last := min 100 k0) (by omega) (fun k hk => by
        constructor
        · intro h
          have : k = k0 := by
            apply Classical.byContradiction
            intro hne
            have := k2 k (by omega)
            rw [h] at this
            cases this
          omega
        · intro h
          have : k = k0 := by omega
          rw [this]; exact k1) (Or.inr ⟨d, d1, by omega⟩) (min 100 k0 + 1) 0 FU iv1 (by omega) (by unfold FU; omega)
    · rw [k3, if_neg (show ¬ (0 : Int32) ≤ I (-1) by decide), show (40 : Int32) = I ((40 : Nat) : Int) from rfl, I_zero]
      exact quick111 hv a1 b1 (by omega) (-1) (by omega) (by omega) (last := 40) (by omega) (fun k hk => by
        constructor
        · intro h
          have := k1 k
          rw [h] at this
          cases this
        · intro h
          omega) (Or.inl (by omega)) 41 0 FU iv1 (by omega) (by unfold FU; omega)
  · have h0 := firstA_0 hS
    have hSI : ∀ k, SI v t (firstA v a t) k = 0 := fun k => SI_zero (k := 0) (by rw [SI]; exact h0) k (Nat.zero_le k)
    have hr : res = -1 := by
      rcases hres with ⟨k0, k1, -⟩ | ⟨-, k3⟩
      · rw [hSI, Nat.zero_testBit] at k1
        cases k1
      · exact k3
    obtain ⟨iv2, e2⟩ := hiding_m (g := g) hv a1 (t := t) (k := 0) (by omega) (by omega) iv1
    obtain ⟨iv3, e3⟩ := hiding_m (g := g) hv a1 (t := t) (k := 9) (by omega) (by omega) iv2
    rw [hSI] at e2 e3
    rw [if_neg (by rw [guardsIn_z hv, hS]; decide), hr, if_neg (show ¬ (0 : Int32) ≤ I (-1) by decide), show (0 : Int32) = I ((0 : Nat) : Int) from rfl, e2, bind_s]
    dsimp only
    rw [if_pos rfl, show (9 : Int32) = I ((9 : Nat) : Int) from rfl, e3, bind_s]
    dsimp only
    rw [if_pos rfl]
    exact ⟨iv3, rfl⟩
end QUICK
