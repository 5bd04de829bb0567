section GAPX
/-- where the longest stretch so far begins -/
def bq (S : Nat → Bool) (x : CS) : Prop := 0 < x.2.2.1 → ∃ b g : Nat, x.2.2.2.1 = (b : Int) + 1 ∧ x.2.2.1 = (g : Int) ∧ S b = true ∧ S (b + 1 + g) = true ∧ (∀ i, i < g → S (b + 1 + i) = false) ∧ ((b + 1 + g : Nat) : Int) ≤ x.2.1
theorem bq_step {S : Nat → Bool} {t : Nat} {x : CS} (hs : S t = true) (hg : gq S t x) (h : bq S x) : bq S (cstep (t : Int) x) := by
  rcases hg with ⟨x1, x2, x3, x4⟩ | ⟨f, l, g, x1, x2, x3, x4, x5, x6, x7, x8, x9, x10, x11⟩
  · unfold bq cstep
    rw [if_pos x2, x3]
    intro h0
    exact absurd h0 (by decide)
  · unfold bq cstep
    rw [if_neg (by rw [x2]; omega)]
    by_cases c : (t : Int) - x.2.1 - 1 ≤ x.2.2.1
    · rw [if_pos c]
      intro h0
      obtain ⟨b, g', y1, y2, y3, y4, y5, y6⟩ := h h0
      exact ⟨b, g', y1, y2, y3, y4, y5, by
        show ((b + 1 + g' : Nat) : Int) ≤ (t : Int)
        rw [x2] at y6
        omega⟩
    · rw [if_neg c]
      intro h0
      rw [x2] at c
      refine ⟨l, t - l - 1, ?_, ?_, x7, ?_, fun i hi => x9 _ (by omega) (by omega), ?_⟩
      · show x.2.1 + 1 = (l : Int) + 1
        rw [x2]
      · show (t : Int) - x.2.1 - 1 = ((t - l - 1 : Nat) : Int)
        rw [x2]
        omega
      · rw [show l + 1 + (t - l - 1) = t by omega]; exact hs
      · show ((l + 1 + (t - l - 1) : Nat) : Int) ≤ (t : Int)
        omega
theorem bq_cst (S : Nat → Bool) (t : Nat) : bq S (cst S t) := by
  induction t with
  | zero => intro h; exact absurd h (show ¬ (0 : Int) < 0 by decide)
  | succ t ih =>
    rw [cst]
    cases hs : S t
    · rw [bif_f]; exact ih
    · rw [bif_t]; exact bq_step hs (gq_cst S t) ih
theorem cstep_n (t : Int) (x : CS) : (cstep t x).2.2.2.2 = x.2.2.2.2 + 1 := by
  unfold cstep
  split
  · rfl
  · split <;> rfl
theorem cntC_e (S : Nat → Bool) (n : Nat) : cntC S n = ((cnt S n : Nat) : Int) := by
  unfold cntC
  induction n with
  | zero => rfl
  | succ n ih =>
    rw [cst, cnt]
    cases hs : S n
    · rw [bif_f, ih]; rfl
    · rw [bif_t, cstep_n, ih]; rfl
/-- never seen -/
theorem gap_never {S : Nat → Bool} {n : Nat} (hn : 1 ≤ n) (hp : ∀ t, S (t + n) = S t) : (gapC S n = -1 ↔ cnt S n = 0) := by
  constructor
  · intro h
    apply Classical.byContradiction
    intro hc
    obtain ⟨i, hi, e⟩ := cnt_pos.mp (show 0 < cnt S n by omega)
    obtain ⟨G, g1, -⟩ := gap_char hn hp ⟨i, hi, e⟩
    omega
  · intro h
    exact gap_none (cnt_0 h)
/-- where the longest stretch begins, and what is around it -/
theorem beg_char {S : Nat → Bool} {n : Nat} (hn : 1 ≤ n) (hp : ∀ t, S (t + n) = S t) : (gapC S n ≤ 0 → begC S n = -1) ∧ (0 < gapC S n → ∃ b G : Nat, begC S n = (b : Int) ∧ gapC S n = (G : Int) ∧ b < n ∧ 1 ≤ G ∧ G + 1 ≤ n ∧ (∀ i, i < G → S (b + i) = false) ∧ S (b + G) = true ∧ S (b + (n - 1)) = true) := by
  have hq := gq_cst S n
  have hb := bq_cst S n
  have hok := cst_ok S n
  unfold gapC begC stC
  rcases hq with ⟨x1, x2, x3, x4⟩ | ⟨f, l, g, x1, x2, x3, x4, x5, x6, x7, x8, x9, x10, x11⟩
  · rw [if_pos x2, if_pos x2]
    exact ⟨fun _ => rfl, fun h => absurd h (by decide)⟩
  · rw [if_neg (show ¬ (cst S n).2.1 = -1 by rw [x2]; omega), if_neg (show ¬ (cst S n).2.1 = -1 by rw [x2]; omega), x1, x2, x3]
    have hS : ∀ k, S (k + n) = S k := hp
    -- the stretch that goes round
    have wrap : ∀ st w : Nat, ((l + 1 < n ∧ st = l + 1) ∨ (l + 1 = n ∧ st = 0)) → (w : Int) = (f : Int) + n - l - 1 → 1 ≤ w → st < n ∧ w + 1 ≤ n ∧ (∀ i, i < w → S (st + i) = false) ∧ S (st + w) = true ∧ S (st + (n - 1)) = true := by
      intro st w hst hw hw1
      rcases hst with ⟨s1, s2⟩ | ⟨s1, s2⟩
      · subst s2
        refine ⟨s1, by omega, fun i hi => ?_, ?_, ?_⟩
        · by_cases c : l + 1 + i < n
          · exact x9 _ (by omega) c
          · rw [show l + 1 + i = (l + 1 + i - n) + n by omega, hS]
            exact x8 _ (by omega)
        · rw [show l + 1 + w = f + n by omega, hS]; exact x6
        · rw [show l + 1 + (n - 1) = l + n by omega, hS]; exact x7
      · subst s2
        refine ⟨by omega, by omega, fun i hi => x8 _ (by omega), ?_, ?_⟩
        · rw [show 0 + w = f by omega]; exact x6
        · rw [show 0 + (n - 1) = l by omega]; exact x7
    have inner : ∀ b g' : Nat, S b = true → S (b + 1 + g') = true → (∀ i, i < g' → S (b + 1 + i) = false) → b + 1 + g' ≤ l → b + 1 < n ∧ g' + 1 ≤ n ∧ (∀ i, i < g' → S (b + 1 + i) = false) ∧ S (b + 1 + g') = true ∧ S (b + 1 + (n - 1)) = true := by
      intro b g' y3 y4 y5 y6
      exact ⟨by omega, by omega, y5, y4, by rw [show b + 1 + (n - 1) = b + n by omega, hS]; exact y3⟩
    have hst : ∃ st : Nat, (if (l : Int) + 1 < n then (l : Int) + 1 else 0) = (st : Int) ∧ ((l + 1 < n ∧ st = l + 1) ∨ (l + 1 = n ∧ st = 0)) := by
      by_cases c : l + 1 < n
      · exact ⟨l + 1, by rw [if_pos (by omega)]; omega, Or.inl ⟨c, rfl⟩⟩
      · exact ⟨0, by rw [if_neg (by omega)]; rfl, Or.inr ⟨by omega, rfl⟩⟩
    obtain ⟨st, st1, st2⟩ := hst
    obtain ⟨w, hw⟩ : ∃ w : Nat, (w : Int) = (f : Int) + n - l - 1 := ⟨f + n - l - 1, by omega⟩
    rw [st1, ← hw]
    by_cases c1 : (g : Int) < (w : Int)
    · rw [if_pos c1, if_pos c1]
      refine ⟨fun h => absurd h (by omega), fun h => ?_⟩
      obtain ⟨z1, z2, z3, z4, z5⟩ := wrap st w st2 hw (by omega)
      exact ⟨st, w, rfl, rfl, z1, by omega, z2, z3, z4, z5⟩
    · rw [if_neg c1, if_neg c1]
      by_cases c0 : g = 0
      · subst c0
        rw [if_neg (by omega)]
        refine ⟨fun _ => ?_, fun h => absurd h (by omega)⟩
        rcases hok with ⟨k1, -⟩ | ⟨k1, k2, k3, k4, k5, k6, -⟩
        · rw [x1] at k1; omega
        · exact k6 (by rw [x3]; rfl)
      · refine ⟨fun h => absurd h (by omega), fun h => ?_⟩
        obtain ⟨b, g', y1, y2, y3, y4, y5, y6⟩ := hb (by rw [x3]; omega)
        rw [x2] at y6
        rw [x3] at y2
        obtain rfl : g' = g := by omega
        by_cases c2 : 0 < (w : Int) ∧ (w : Int) = (g' : Int) ∧ (st : Int) < (cst S n).2.2.2.1
        · rw [if_pos c2]
          obtain ⟨z1, z2, z3, z4, z5⟩ := wrap st w st2 hw (by omega)
          obtain rfl : w = g' := by omega
          exact ⟨st, w, rfl, rfl, z1, by omega, z2, z3, z4, z5⟩
        · rw [if_neg c2, y1]
          obtain ⟨z1, z2, z3, z4, z5⟩ := inner b g' y3 y4 y5 (by omega)
          exact ⟨b + 1, g', by omega, rfl, z1, by omega, z2, z3, z4, z5⟩
theorem gap_lt {S : Nat → Bool} {n : Nat} (hn : 1 ≤ n) (hp : ∀ t, S (t + n) = S t) : gapC S n ≤ (n : Int) - 1 := by
  by_cases c : 0 < gapC S n
  · obtain ⟨b, G, -, g2, -, -, g5, -⟩ := (beg_char hn hp).2 c
    omega
  · omega
end GAPX
