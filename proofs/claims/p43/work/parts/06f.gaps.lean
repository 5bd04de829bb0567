section GAPS
/-- what is known of a room while the minutes of a cycle pass: first and last sighting, the longest gap and its begin, how many -/
abbrev CS : Type := Int × Int × Int × Int × Int
def cstep (t : Int) (x : CS) : CS := if x.2.1 = -1 then (t, t, x.2.2.1, x.2.2.2.1, x.2.2.2.2 + 1) else if t - x.2.1 - 1 ≤ x.2.2.1 then (x.1, t, x.2.2.1, x.2.2.2.1, x.2.2.2.2 + 1) else (x.1, t, t - x.2.1 - 1, x.2.1 + 1, x.2.2.2.2 + 1)
def cst (S : Nat → Bool) : Nat → CS
  | 0 => (-1, -1, 0, -1, 0)
  | t + 1 => bif S t then cstep (t : Int) (cst S t) else cst S t
/-- what holds of it at the minute t -/
def cok (t : Int) (x : CS) : Prop := (x.1 = -1 ∧ x.2.1 = -1 ∧ x.2.2.1 = 0 ∧ x.2.2.2.1 = -1 ∧ x.2.2.2.2 = 0) ∨ (0 ≤ x.1 ∧ x.1 ≤ x.2.1 ∧ x.2.1 < t ∧ 0 ≤ x.2.2.1 ∧ x.2.2.1 < t ∧ (x.2.2.1 = 0 → x.2.2.2.1 = -1) ∧ (0 < x.2.2.1 → 1 ≤ x.2.2.2.1 ∧ x.2.2.2.1 + x.2.2.1 ≤ x.2.1) ∧ 1 ≤ x.2.2.2.2 ∧ x.2.2.2.2 ≤ t)
theorem cok_mono {t u : Int} {x : CS} (h : cok t x) (hu : t ≤ u) : cok u x := by
  rcases h with h | ⟨a, b, c, d, e, f, g, i, j⟩
  · exact Or.inl h
  · exact Or.inr ⟨a, b, by omega, d, by omega, f, g, i, by omega⟩
theorem cok_step {t : Int} {x : CS} (ht : 0 ≤ t) (h : cok t x) : cok (t + 1) (cstep t x) := by
  obtain ⟨f, l, g, s, c⟩ := x
  unfold cok at h
  unfold cstep cok
  dsimp only at h ⊢
  rcases h with ⟨rfl, rfl, rfl, rfl, rfl⟩ | ⟨a1, a2, a3, a4, a5, a6, a7, a8, a9⟩
  · rw [if_pos rfl]
    dsimp only
    right; omega
  · rw [if_neg (by omega)]
    split
    · dsimp only
      right
      refine ⟨a1, by omega, by omega, a4, by omega, a6, fun h => ?_, by omega, by omega⟩
      have := a7 h
      omega
    · dsimp only
      right
      refine ⟨a1, by omega, by omega, by omega, by omega, fun h => by omega, fun h => by omega, by omega, by omega⟩
theorem cst_ok (S : Nat → Bool) (t : Nat) : cok (t : Int) (cst S t) := by
  induction t with
  | zero => exact Or.inl ⟨rfl, rfl, rfl, rfl, rfl⟩
  | succ t ih =>
    unfold cst
    cases S t
    · exact cok_mono ih (by omega)
    · exact cok_step (by omega) ih
/-- the round closed: the longest gap, and where it begins -/
def gapC (S : Nat → Bool) (n : Nat) : Int := if (cst S n).2.1 = -1 then -1 else if (cst S n).2.2.1 < (cst S n).1 + n - (cst S n).2.1 - 1 then (cst S n).1 + n - (cst S n).2.1 - 1 else (cst S n).2.2.1
def stC (S : Nat → Bool) (n : Nat) : Int := if (cst S n).2.1 + 1 < n then (cst S n).2.1 + 1 else 0
def begC (S : Nat → Bool) (n : Nat) : Int := if (cst S n).2.1 = -1 then -1 else if (cst S n).2.2.1 < (cst S n).1 + n - (cst S n).2.1 - 1 then stC S n else if 0 < (cst S n).1 + n - (cst S n).2.1 - 1 ∧ (cst S n).1 + n - (cst S n).2.1 - 1 = (cst S n).2.2.1 ∧ stC S n < (cst S n).2.2.2.1 then stC S n else (cst S n).2.2.2.1
def cntC (S : Nat → Bool) (n : Nat) : Int := (cst S n).2.2.2.2
theorem gapC_b (S : Nat → Bool) {n : Nat} (hn : 1 ≤ n) : -1 ≤ gapC S n ∧ gapC S n ≤ n := by
  unfold gapC
  rcases cst_ok S n with h | ⟨a1, a2, a3, a4, a5, -⟩
  · rw [if_pos h.2.1]; omega
  · rw [if_neg (by omega)]
    split <;> omega
theorem stC_b (S : Nat → Bool) {n : Nat} (h : (cst S n).2.1 < n) (h0 : 0 ≤ (cst S n).2.1) : 0 ≤ stC S n ∧ stC S n ≤ n := by
  unfold stC
  split <;> omega
theorem begC_b (S : Nat → Bool) {n : Nat} (hn : 1 ≤ n) : -1 ≤ begC S n ∧ begC S n ≤ n := by
  unfold begC
  rcases cst_ok S n with h | ⟨a1, a2, a3, a4, a5, a6, a7, -⟩
  · rw [if_pos h.2.1]; omega
  · rw [if_neg (show ¬ (cst S n).2.1 = -1 by omega)]
    have hs := stC_b S a3 (by omega)
    have : -1 ≤ (cst S n).2.2.2.1 ∧ (cst S n).2.2.2.1 ≤ n := by
      by_cases h : (cst S n).2.2.1 = 0
      · rw [a6 h]; omega
      · have := a7 (by omega); omega
    split
    · omega
    · split
      · omega
      · exact this
/-- the model's own way to keep them -/
def mstep (t : Int) (x : CS) : CS := if x.1 = -1 then (t, t, x.2.2.1, x.2.2.2.1, x.2.2.2.2 + 1) else (x.1, t, max x.2.2.1 (t - x.2.1 - 1), (if x.2.2.1 < t - x.2.1 - 1 ∨ (t - x.2.1 - 1 = x.2.2.1 ∧ x.2.1 + 1 < x.2.2.2.1) then x.2.1 + 1 else x.2.2.2.1), x.2.2.2.2 + 1)
def mst (S : Nat → Bool) (l0 : Int) : Nat → CS
  | 0 => (-1, l0, -1, -1, 0)
  | t + 1 => bif S t then mstep (t : Int) (mst S l0 t) else mst S l0 t
def mcs (c m : CS) : Prop := m.1 = c.1 ∧ m.2.2.2.2 = c.2.2.2.2 ∧ (c.1 ≠ -1 → m.2.1 = c.2.1) ∧ -1 ≤ m.2.2.1 ∧ c.2.2.1 = max m.2.2.1 0 ∧ (0 < m.2.2.1 → m.2.2.2.1 = c.2.2.2.1) ∧ (c.1 = -1 → m.2.2.1 = -1) ∧ -1 ≤ m.2.2.2.1
theorem mcs_step {t : Int} {c m : CS} (ht : 0 ≤ t) (hc : cok t c) (h : mcs c m) : mcs (cstep t c) (mstep t m) := by
  obtain ⟨f, l, g, s, n⟩ := c
  obtain ⟨f', l', g', s', n'⟩ := m
  unfold cok at hc
  unfold mcs at h
  unfold mcs cstep mstep
  dsimp only at hc h ⊢
  obtain ⟨rfl, rfl, h3, h4, h5, h6, h7, h8⟩ := h
  rcases hc with ⟨rfl, rfl, rfl, rfl, rfl⟩ | ⟨a1, a2, a3, a4, a5, a6, a7, a8, a9⟩
  · rw [if_pos rfl, if_pos rfl]
    dsimp only
    have := h7 rfl
    omega
  · have hl := h3 (by omega)
    subst hl
    rw [if_neg (show ¬ l' = -1 by omega), if_neg (show ¬ f' = -1 by omega)]
    by_cases hlen : t - l' - 1 ≤ g
    · rw [if_pos hlen]
      dsimp only
      refine ⟨rfl, rfl, fun _ => rfl, by omega, by omega, fun hp => ?_, fun h => by omega, by split <;> omega⟩
      have hg : 0 < g' := by omega
      have := a7 (by omega)
      have := h6 hg
      rw [if_neg (show ¬ (g' < t - l' - 1 ∨ t - l' - 1 = g' ∧ l' + 1 < s') by omega)]
      exact h6 hg
    · rw [if_neg hlen]
      dsimp only
      refine ⟨rfl, rfl, fun _ => rfl, by omega, by omega, fun hp => ?_, fun h => by omega, by split <;> omega⟩
      rw [if_pos (show g' < t - l' - 1 ∨ t - l' - 1 = g' ∧ l' + 1 < s' by omega)]
theorem mst_cs (S : Nat → Bool) (l0 : Int) (t : Nat) : mcs (cst S t) (mst S l0 t) := by
  induction t with
  | zero => exact ⟨rfl, rfl, fun h => absurd rfl h, show (-1 : Int) ≤ -1 by decide, show (0 : Int) = max (-1) 0 by decide, fun h => absurd (show (0 : Int) < -1 from h) (by decide), fun _ => rfl, show (-1 : Int) ≤ -1 by decide⟩
  | succ t ih =>
    unfold cst mst
    cases S t
    · exact ih
    · exact mcs_step (by omega) (cst_ok S t) ih
/-- the model's close of the round -/
def gapM (S : Nat → Bool) (l0 : Int) (n : Nat) : Int := if (mst S l0 n).1 = -1 then (mst S l0 n).2.2.1 else max (mst S l0 n).2.2.1 (n - (mst S l0 n).2.1 - 1 + (mst S l0 n).1)
def begM (S : Nat → Bool) (l0 : Int) (n : Nat) : Int := if (mst S l0 n).1 = -1 then (mst S l0 n).2.2.2.1 else if (mst S l0 n).2.2.1 < n - (mst S l0 n).2.1 - 1 + (mst S l0 n).1 ∨ (n - (mst S l0 n).2.1 - 1 + (mst S l0 n).1 = (mst S l0 n).2.2.1 ∧ ((mst S l0 n).2.1 + 1) % n < (mst S l0 n).2.2.2.1) then ((mst S l0 n).2.1 + 1) % n else (mst S l0 n).2.2.2.1
theorem gapM_eq (S : Nat → Bool) (l0 : Int) {n : Nat} (hn : 1 ≤ n) : gapM S l0 n = gapC S n ∧ (0 < gapC S n → begM S l0 n = begC S n) := by
  have hc := cst_ok S n
  have hm := mst_cs S l0 n
  unfold gapM begM gapC begC stC
  generalize cst S n = c at *
  generalize mst S l0 n = m at *
  obtain ⟨f, l, g, s, k⟩ := c
  obtain ⟨f', l', g', s', k'⟩ := m
  unfold cok at hc
  unfold mcs at hm
  dsimp only at hc hm ⊢
  obtain ⟨rfl, rfl, h3, h4, h5, h6, h7, h8⟩ := hm
  rcases hc with ⟨rfl, rfl, rfl, rfl, rfl⟩ | ⟨a1, a2, a3, a4, a5, a6, a7, a8, a9⟩
  · rw [if_pos rfl, if_pos rfl]
    have := h7 rfl
    exact ⟨this, fun h => absurd h (by omega)⟩
  · have hl := h3 (by omega)
    subst hl
    have hmod : (l' + 1) % (n : Int) = if l' + 1 < n then l' + 1 else 0 := by
      split
      · exact Int.emod_eq_of_lt (by omega) (by omega)
      · rw [show l' + 1 = (n : Int) by omega, Int.emod_self]
    have hst : 0 ≤ (if l' + 1 < (n : Int) then l' + 1 else 0) := by split <;> omega
    rw [hmod]
    generalize (if l' + 1 < (n : Int) then l' + 1 else 0) = st at hst ⊢
    rw [if_neg (show ¬ l' = -1 by omega), if_neg (show ¬ f' = -1 by omega), if_neg (show ¬ f' = -1 by omega), if_neg (show ¬ l' = -1 by omega), show (n : Int) - l' - 1 + f' = f' + n - l' - 1 by omega]
    refine ⟨by split <;> omega, fun hpos => ?_⟩
    by_cases b1 : g < f' + n - l' - 1
    · rw [if_pos b1, if_pos (show g' < f' + n - l' - 1 ∨ f' + n - l' - 1 = g' ∧ st < s' by omega)]
    · rw [if_neg b1] at hpos ⊢
      have hg' : g = g' := by omega
      have hs := h6 (by omega)
      have := a7 hpos
      subst hs
      by_cases b2 : f' + n - l' - 1 = g ∧ st < s'
      · rw [if_pos (show g' < f' + n - l' - 1 ∨ f' + n - l' - 1 = g' ∧ st < s' by omega), if_pos (show 0 < f' + n - l' - 1 ∧ f' + n - l' - 1 = g ∧ st < s' by omega)]
      · rw [if_neg (show ¬ (g' < f' + n - l' - 1 ∨ f' + n - l' - 1 = g' ∧ st < s') by omega), if_neg (show ¬ (0 < f' + n - l' - 1 ∧ f' + n - l' - 1 = g ∧ st < s') by omega)]
end GAPS

