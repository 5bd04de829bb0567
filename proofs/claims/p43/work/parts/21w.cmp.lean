section CMP
variable {K : KT} {T : TT} {t : ToksV} {l f e k : Nat} {v : HouseV} {sv : SightV}
def ordB (o a b : Int) : Bool := if o < 0 then decide (a < b) else if 0 < o then decide (b < a) else decide (a = b)
/-- a set by numbers -/
def bv (S r : Nat) : Int := if S.testBit r = true then 1 else 0
end CMP

