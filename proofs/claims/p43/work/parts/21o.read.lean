section READ
variable {K : KT} {T : TT} {t : ToksV} {l f e k : Nat} {v : HouseV} {m : Nat → Int32}
theorem st13 : stL 13 = stL 34 := by decide
theorem st14 : stL 14 = stL 43 := by decide
theorem st11 : stL 11 = stL 46 := by decide
theorem st12 : stL 12 = stL 47 := by decide
theorem st9 : stL 9 = stL 45 := by decide
theorem st10 : stL 10 = stL 48 := by decide
/-! behind an error -/
end READ

