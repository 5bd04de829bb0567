section SS0
abbrev KT := Int32 × ((Nat → Int32) × (Nat → Int32) × (Nat → Int32) × Int32 × Bool × (Nat → Int32) × Int32 × (Nat → Int32) × Int32 × Int32)
abbrev TT := (Nat → Int32) × Int32 × Int32
variable {K : KT} {T : TT} {t : ToksV} {l f e k : Nat}
end SS0

