section BESTM
theorem val_succ (r φ : Nat → Nat) (k : Nat) : val r φ (k + 1) = val r φ k * r k + φ k := rfl
theorem prd_succ (r : Nat → Nat) (k : Nat) : prd r (k + 1) = prd r k * r k := rfl
section
variable {v : HouseV}
theorem prdM_b (hn : WFn v) (hw : WFG v) : 1 ≤ prd (rM v) (hG v) ∧ prd (rM v) (hG v) ≤ 10000 := by
  have h := prd_le (r := rM v) (k := hG v) fun g hg => ⟨by have := rC_le hw hg; omega, by have := rM_le hw hg; have := hw.per g hg; omega⟩
  exact ⟨h.1, Nat.le_trans h.2 (Nat.le_trans (Nat.pow_le_pow_right (by decide) hn.2.2.2.2.2.2.1) (by decide))⟩
end
end BESTM

