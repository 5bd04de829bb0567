section QUERY
variable {K : KT} {T : TT} {l : Nat} {v : HouseV} {sv : SightV}
/-- the answer of a query: how many, or the first -/
def ansQ (many : Bool) (S R : Nat) (a : Int) : Prop := if many = true then a = ((cnt S.testBit R : Nat) : Int) else ((a = -1 ∧ ∀ r, r < R → S.testBit r = false) ∨ (∃ r : Nat, r < R ∧ a = (r : Int) ∧ S.testBit r = true ∧ ∀ i, i < r → S.testBit i = false))
end QUERY

