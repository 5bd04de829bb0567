section LAY
section
variable {f l s g b x : Nat → Int32}
end
/-- a room in these rows stands at x -/
def MR (f l s g b : Nat → Int32) (r : Nat) (x : CS) : Prop := f r = I x.1 ∧ (x.1 ≠ -1 → l r = I x.2.1) ∧ g r = I x.2.2.1 ∧ b r = I x.2.2.2.1 ∧ s r = I x.2.2.2.2
def mb (t : Int) (x : CS) : Prop := -1 ≤ x.1 ∧ x.1 < t ∧ (x.1 ≠ -1 → 0 ≤ x.2.1 ∧ x.1 ≤ x.2.1 ∧ x.2.1 < t) ∧ -1 ≤ x.2.2.1 ∧ x.2.2.1 < t ∧ -1 ≤ x.2.2.2.1 ∧ x.2.2.2.1 ≤ t ∧ 0 ≤ x.2.2.2.2 ∧ x.2.2.2.2 ≤ t
theorem mb_mono {t u : Int} {x : CS} (h : mb t x) (hu : t ≤ u) : mb u x := by
  obtain ⟨a, b, c, d, e, f, g, i, j⟩ := h
  refine ⟨a, by omega, fun h => ?_, d, by omega, f, by omega, i, by omega⟩
  have := c h
  omega
theorem mb_step {t : Int} {x : CS} (ht : 0 ≤ t) (h : mb t x) : mb (t + 1) (mstep t x) := by
  obtain ⟨f, l, g, s, n⟩ := x
  unfold mb at h ⊢
  unfold mstep
  dsimp only at h ⊢
  obtain ⟨a1, a2, a3, a4, a5, a6, a7, a8, a9⟩ := h
  by_cases hf : f = -1
  · rw [if_pos hf]
    dsimp only
    omega
  · have := a3 hf
    rw [if_neg hf]
    dsimp only
    refine ⟨a1, by omega, fun _ => by omega, by omega, by omega, ?_, ?_, by omega, by omega⟩
    · split <;> omega
    · split <;> omega
theorem mst_b (S : Nat → Bool) (l0 : Int) (t : Nat) : mb (t : Int) (mst S l0 t) := by
  induction t with
  | zero => exact ⟨show (-1 : Int) ≤ -1 by decide, show (-1 : Int) < 0 by decide, fun h => absurd rfl h, show (-1 : Int) ≤ -1 by decide, show (-1 : Int) < 0 by decide, show (-1 : Int) ≤ -1 by decide, show (-1 : Int) ≤ 0 by decide, show (0 : Int) ≤ 0 by decide, show (0 : Int) ≤ 0 by decide⟩
  | succ t ih =>
    unfold mst
    cases S t
    · exact mb_mono ih (by omega)
    · exact mb_step (by omega) ih
theorem MR_o {f l s g b f' l' s' g' b' : Nat → Int32} {r : Nat} {x : CS} (h : MR f l s g b r x) (e1 : f' r = f r) (e2 : l' r = l r) (e3 : s' r = s r) (e4 : g' r = g r) (e5 : b' r = b r) : MR f' l' s' g' b' r x := by
  unfold MR at h ⊢
  rw [e1, e2, e3, e4, e5]
  exact h
section
variable {v : HouseV} {p : Nat → Int32}
/-- the minutes of the cycle, then the close of the round -/
def GM (s g b : Nat → Int32) (w : HouseV) (r : Nat) : Prop := g r = I (gapC (Sg w r) (cyc w)) ∧ s r = I (cntC (Sg w r) (cyc w)) ∧ (0 < gapC (Sg w r) (cyc w) → b r = I (begC (Sg w r) (cyc w)))
end
/-! the phases as they are -/
section
variable {v w : HouseV} {f l s g b : Nat → Int32}
/-- the sum of f 0 .. f (n - 1) -/
def sumTo (f : Nat → Int) : Nat → Int
  | 0 => 0
  | k + 1 => sumTo f k + f k
end
end LAY

