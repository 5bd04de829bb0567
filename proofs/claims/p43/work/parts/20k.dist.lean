section DIST
def dn (v : HouseV) (A : Nat) : Nat := A ||| ors (fun r => bif A.testBit r then jm v r else 0) (hR v)
/-- the rooms within so many doors -/
def DD (v : HouseV) (r : Nat) : Nat → Nat
  | 0 => 1 <<< r
  | k + 1 => dn v (DD v r k)
theorem DD_lt {v : HouseV} (hd : WFd v) {r : Nat} (hr : r < hR v) (k : Nat) : DD v r k < 2 ^ hR v := by
  induction k with
  | zero => exact bit_lt hr
  | succ k ih =>
    refine or_lt ih (ors_lt fun q _ => ?_)
    cases (DD v r k).testBit q
    · exact Nat.two_pow_pos _
    · exact jm_lt hd q
theorem DD_sub (v : HouseV) (r k s : Nat) (h : (DD v r k).testBit s = true) : (DD v r (k + 1)).testBit s = true := by
  show (DD v r k ||| _).testBit s = true
  rw [or_iff]; exact Or.inl h
theorem DD_stop {v : HouseV} {r k : Nat} (h : DD v r (k + 1) = DD v r k) : ∀ j, k ≤ j → DD v r j = DD v r k := by
  intro j hj
  obtain ⟨d, rfl⟩ : ∃ d, j = k + d := ⟨j - k, by omega⟩
  clear hj
  induction d with
  | zero => rfl
  | succ d ih =>
    show dn v (DD v r (k + d)) = _
    rw [ih]
    exact h
theorem DD_first {v : HouseV} (hd : WFd v) {r to k : Nat} (hr : r < hR v) (h1 : (DD v r k).testBit to = true) (h2 : ∀ j, j < k → (DD v r j).testBit to = false) : k < hR v := by
  have key : ∀ j, j ≤ k → j + 1 ≤ cnt (DD v r j).testBit (hR v) := by
    intro j
    induction j with
    | zero =>
      intro _
      have h0 : (DD v r 0).testBit r = true := by
        show (1 <<< r).testBit r = true
        rw [tb_one]; exact decide_eq_true rfl
      exact cnt_pos.mpr ⟨r, hr, h0⟩
    | succ j ih =>
      intro hj
      have i := ih (by omega)
      have hne : DD v r (j + 1) ≠ DD v r j := fun he => by
        have := DD_stop he k (by omega)
        rw [this, h2 j (by omega)] at h1
        cases h1
      have hex : ∃ s, (DD v r j).testBit s = false ∧ (DD v r (j + 1)).testBit s = true := by
        apply Classical.byContradiction
        intro hcon
        apply hne
        apply nat_ext
        intro s
        cases a : (DD v r j).testBit s
        · cases b : (DD v r (j + 1)).testBit s
          · rfl
          · exact absurd ⟨s, a, b⟩ hcon
        · exact DD_sub v r j s a
      obtain ⟨s, a, b⟩ := hex
      have := cnt_more (DD_sub v r j) (bitlt (DD_lt hd hr (j + 1)) b) a b
      omega
  have a := key k (Nat.le_refl k)
  have b := cnt_le (DD v r k).testBit (hR v)
  omega
def DistIs (v : HouseV) (r to : Nat) (res : Int) : Prop := (∃ k, (DD v r k).testBit to = true ∧ (∀ j, j < k → (DD v r j).testBit to = false) ∧ res = k) ∨ ((∀ k, (DD v r k).testBit to = false) ∧ res = -1)
theorem dist_ex (v : HouseV) (r to : Nat) : ∃ res, DistIs v r to res := by
  by_cases c : ∃ k, (DD v r k).testBit to = true
  · obtain ⟨k, h1, h2⟩ := least c
    exact ⟨_, Or.inl ⟨k, h1, fun j hj => by cases h : (DD v r j).testBit to; rfl; exact absurd h (h2 j hj), rfl⟩⟩
  · exact ⟨_, Or.inr ⟨fun k => by cases h : (DD v r k).testBit to; rfl; exact absurd ⟨k, h⟩ c, rfl⟩⟩
theorem dist_in {v : HouseV} (hn : WFn v) (hd : WFd v) (hj : WFj v) {x1 x2 : Int32} {A c : Nat} {k7 : Int32 → Int32 → Option Int32} (hA : A < 2 ^ hR v) : ∀ (q k n : Nat), hR v = k + q → q < n → House_doorsBetween_31 x1 x2 v (I (A : Int)) (I (c : Int)) k7 n (I ((A ||| ors (fun r => bif A.testBit r then jm v r else 0) k : Nat) : Int)) (I (k : Int)) = k7 (I (dn v A : Int)) (I ((c + 1 : Nat) : Int)) := by
  have hR12 : hR v ≤ 12 := hn.2.2.1
  have eR : House_rooms v = I (hR v) := hn.1
  have hp := pow31 hR12
  intro q
  induction q with
  | zero =>
    intro k n hk hm
    obtain ⟨n, rfl⟩ : ∃ q, n = q + 1 := ⟨n - 1, by omega⟩
    rw [House_doorsBetween_31, eR, if_pos (I_le_t (by omega) (by omega) (by omega)), nmL_e, I_succ, dn, show k = hR v by omega]
  | succ q ih =>
    intro k n hk hm
    obtain ⟨n, rfl⟩ : ∃ q, n = q + 1 := ⟨n - 1, by omega⟩
    have hh := ih (k + 1) n (by omega) (by omega)
    rw [ors] at hh
    rw [House_doorsBetween_31, eR, if_neg (I_le_f (by omega) (by omega) (by omega)), I12, if_neg (I_le_f (by omega) (by omega) (by omega)), gwhas_s (by omega) (by omega), bind_s]
    cases hb1 : A.testBit k
    · rw [hb1, bif_f, Nat.or_zero] at hh
      rw [bif_f, nmL_e, I_succ]
      exact hh
    · rw [hb1, bif_t, ← Nat.or_assoc] at hh
      rw [bif_t, gd_I (by omega) (by omega) (by omega), nmL_e, nmL_e, I_clamp k (by omega), hj k (by omega), I_or, I_succ]
      exact hh
theorem dist_loop_s {v : HouseV} (hn : WFn v) (hd : WFd v) (hj : WFj v) {x1 : Int32} {r to N : Nat} (hr : r < hR v) (hto : to < hR v) (hN : N ≤ 12) (hbe : ∀ j, j < N → (DD v r j).testBit to = false) (hen : N = 12 ∨ (DD v r N).testBit to = true) : ∀ (q k n : Nat), N = k + q → q < n → House_doorsBetween_7 x1 (I (to : Int)) v n (I (DD v r k : Int)) (I (k : Int)) = some (I (if N = 12 then -1 else (N : Int))) := by
  have hR12 : hR v ≤ 12 := hn.2.2.1
  have hp := pow31 hR12
  intro q
  induction q with
  | zero =>
    intro k n hk hm
    obtain ⟨n, rfl⟩ : ∃ q, n = q + 1 := ⟨n - 1, by omega⟩
    have ek : k = N := by omega
    subst ek
    have hl := DD_lt hd hr k
    rw [House_doorsBetween_7, I12]
    by_cases c : k = 12
    · rw [if_pos (I_le_t (by omega) (by omega) (by omega)), if_pos c]; rfl
    · have hb : (DD v r k).testBit to = true := by
        rcases hen with h | h
        · exact absurd h c
        · exact h
      rw [if_neg (I_le_f (by omega) (by omega) (by omega)), gwhas_s (by omega) (by omega), bind_s, hb, bif_t, if_neg c]
  | succ q ih =>
    intro k n hk hm
    obtain ⟨n, rfl⟩ : ∃ q, n = q + 1 := ⟨n - 1, by omega⟩
    have hl := DD_lt hd hr k
    have hh := ih (k + 1) n (by omega) (by omega)
    rw [House_doorsBetween_7, I12, if_neg (I_le_f (by omega) (by omega) (by omega)), gwhas_s (by omega) (by omega), bind_s, hbe k (by omega), bif_f]
    have := dist_in hn hd hj (x1 := x1) (x2 := I (to : Int)) (c := k) (k7 := fun (x3 : Int32) (x4 : Int32) => House_doorsBetween_7 x1 (I (to : Int)) v n x3 x4) hl (hR v) 0 FU (by omega) (by unfold FU; omega)
    rw [ors, Nat.or_zero] at this
    rw [I_zero, this]
    exact hh
theorem doorsBetween_s {v : HouseV} (hn : WFn v) (hd : WFd v) (hj : WFj v) {r to : Nat} (hr : r < hR v) (hto : to < hR v) {res : Int} (ha : DistIs v r to res) : House_doorsBetween (I (r : Int)) (I (to : Int)) v = some (I res) := by
  have hR12 : hR v ≤ 12 := hn.2.2.1
  unfold House_doorsBetween
  rw [nmL_e, I_shl r (by omega)]
  rcases ha with ⟨k, h1, h2, rfl⟩ | ⟨h1, rfl⟩
  · have hk := DD_first hd hr h1 h2
    have := dist_loop_s hn hd hj (x1 := I (r : Int)) (N := k) hr hto (by omega) h2 (Or.inr h1) k 0 FU (by omega) (by unfold FU; omega)
    rw [if_neg (by omega)] at this
    exact this
  · exact dist_loop_s hn hd hj (x1 := I (r : Int)) (N := 12) hr hto (by omega) (fun j _ => h1 j) (Or.inl rfl) 12 0 FU (by omega) (by unfold FU; omega)
/-! the model -/
section
variable {v : HouseV}
end
end DIST

