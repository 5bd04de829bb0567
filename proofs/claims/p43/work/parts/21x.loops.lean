section FACT
variable {K : KT} {T : TT} {l : Nat} {v : HouseV} {sv : SightV}
abbrev QO := Option (Int32 × QReadV × ToksV × (Nat → Int32) × (Nat → Int32))
theorem st18 : stL 18 = stL 51 := by decide
theorem st19 : stL 19 = stL 50 := by decide
theorem st20 : stL 20 = stL 49 := by decide
theorem st16 : stL 16 = stL 53 := by decide
theorem st17 : stL 17 = stL 52 := by decide
theorem bv_and (S S2 r : Nat) : bv (S &&& S2) r = if (S.testBit r && S2.testBit r) = true then 1 else 0 := by unfold bv; rw [Nat.testBit_and]
theorem bv_or (S S2 r : Nat) : bv (S ||| S2) r = if (S.testBit r || S2.testBit r) = true then 1 else 0 := by unfold bv; rw [Nat.testBit_or]
end FACT

