section FACT
variable {K : KT} {T : TT} {l : Nat} {v : HouseV} {sv : SightV}
abbrev QO := Option (Int32 × QReadV × ToksV × (Nat → Int32) × (Nat → Int32))
theorem bv_and (S S2 r : Nat) : bv (S &&& S2) r = if (S.testBit r && S2.testBit r) = true then 1 else 0 := by unfold bv; rw [Nat.testBit_and]
theorem bv_or (S S2 r : Nat) : bv (S ||| S2) r = if (S.testBit r || S2.testBit r) = true then 1 else 0 := by unfold bv; rw [Nat.testBit_or]
end FACT

