/-- rows of a row of rows: how many, how long, what they hold -/
abbrev RowsT : Type := Nat × (Nat → Nat) × (Nat → Nat → Int32)
def rr0 : RowsT := (0, (fun _ => 0), fun _ _ => 0)
def rrSet (v : RowsT) (k : Nat) (x : Nat → Int32) : RowsT := (v.1, v.2.1, fun j => if j = k then x else v.2.2 j)
def rrPut (v : RowsT) (k n : Nat) (x : Nat → Int32) : RowsT := (v.1, (fun j => if j = k then n else v.2.1 j), fun j => if j = k then x else v.2.2 j)
def rrApp (v : RowsT) (n : Nat) (x : Nat → Int32) : RowsT := (v.1 + 1, (fun j => if j = v.1 then n else v.2.1 j), fun j => if j = v.1 then x else v.2.2 j)
def nzl (y : Int64) : Bool := decide (y ≠ 0)
theorem nzl_ne {y : Int64} (h : nzl y = true) : ¬ y = 0 := of_decide_eq_true h
def Own0 : OwnV := ((1 : Int32), (0 : Int32), (0 : Int32), (0 : Int32))
