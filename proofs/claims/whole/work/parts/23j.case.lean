section CASES10
theorem beg_neg (S : Nat → Bool) {n : Nat} (hn : 1 ≤ n) (h : gapC S n ≤ 0) : begC S n = -1 := by
  unfold gapC at h
  unfold begC
  rcases cst_ok S n with k | ⟨a1, a2, a3, a4, a5, a6, a7, a8, a9⟩
  · rw [if_pos k.2.1]
  · rw [if_neg (show ¬ (cst S n).2.1 = -1 by omega)] at h ⊢
    split at h
    · exfalso; omega
    · rw [if_neg (by omega), if_neg (by omega)]
      exact a6 (by omega)
end CASES10
