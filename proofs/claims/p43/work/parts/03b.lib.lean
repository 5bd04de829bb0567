section WWx
/-- the House rows of the history: an array of references, and the houses -/
def hsF (ah : Nat → Nat → Nat) : Nat → Option Nat := fun i => some (ah i 0)
def wHs (E : Ex) (q : Nat) (ah : Nat → Nat → Nat) (vh : Nat → HouseV) : va_W := (q, .inl (eH E, 10, .inr (.inr (.inr (.inr (hsF ah)))))) :: ((List.range 10).flatMap fun j => wHouse E (ah j) (vh j))
def wHsA (E : Ex) (q : Nat) (ah : Nat → Nat → Nat) (vh : Nat → HouseV) (i : Nat) : va_W := (q, .inl (eH E, 10, .inr (.inr (.inr (.inr (hsF ah)))))) :: ((List.range i).flatMap fun j => wHouse E (ah j) (vh j))
def wHsB (E : Ex) (ah : Nat → Nat → Nat) (vh : Nat → HouseV) (i : Nat) : va_W := (List.range' (i + 1) (9 - i)).flatMap fun j => wHouse E (ah j) (vh j)
def updH (vh : Nat → HouseV) (i : Nat) (x : HouseV) : Nat → HouseV := fun j => if j = i then x else vh j
theorem hs_range : ∀ i, i < 10 → List.range 10 = List.range i ++ i :: List.range' (i + 1) (9 - i) := by decide
theorem inB_lt {i : Int32} {n : Nat} (h : inB i n = true) : i.toNatClampNeg < n := by
  simp only [inB, Bool.not_eq_true', Bool.or_eq_false_iff, decide_eq_false_iff_not] at h
  omega
theorem hs_cut {E : Ex} {q : Nat} {ah : Nat → Nat → Nat} {vh : Nat → HouseV} {i : Int32} (h : inB i 10 = true) : wHs E q ah vh = wHsA E q ah vh i.toNatClampNeg ++ (wHouse E (ah i.toNatClampNeg) (vh i.toNatClampNeg) ++ wHsB E ah vh i.toNatClampNeg) := by
  unfold wHs wHsA wHsB
  rw [hs_range _ (inB_lt h), List.flatMap_append, List.flatMap_cons, List.cons_append]
theorem hs_join {E : Ex} {q : Nat} {ah : Nat → Nat → Nat} {vh : Nat → HouseV} {i : Int32} {x : HouseV} (h : inB i 10 = true) : wHs E q ah (updH vh i.toNatClampNeg x) = wHsA E q ah vh i.toNatClampNeg ++ (wHouse E (ah i.toNatClampNeg) x ++ wHsB E ah vh i.toNatClampNeg) := by
  rw [hs_cut h]
  unfold wHsA wHsB
  have e0 : updH vh i.toNatClampNeg x i.toNatClampNeg = x := if_pos rfl
  have e1 : (List.range i.toNatClampNeg).flatMap (fun j => wHouse E (ah j) (updH vh i.toNatClampNeg x j)) = (List.range i.toNatClampNeg).flatMap (fun j => wHouse E (ah j) (vh j)) := by
    rw [List.flatMap_def, List.flatMap_def]
    congr 1
    refine List.map_congr_left (fun j hj => ?_)
    rw [List.mem_range] at hj
    rw [updH, if_neg (by omega)]
  have e2 : (List.range' (i.toNatClampNeg + 1) (9 - i.toNatClampNeg)).flatMap (fun j => wHouse E (ah j) (updH vh i.toNatClampNeg x j)) = (List.range' (i.toNatClampNeg + 1) (9 - i.toNatClampNeg)).flatMap (fun j => wHouse E (ah j) (vh j)) := by
    rw [List.flatMap_def, List.flatMap_def]
    congr 1
    refine List.map_congr_left (fun j hj => ?_)
    rw [List.mem_range'] at hj
    obtain ⟨k, hk, rfl⟩ := hj
    rw [updH, if_neg (by omega)]
  rw [e0, e1, e2]
theorem q_Hs {E : Ex} {q : Nat} {ah : Nat → Nat → Nat} {vh : Nat → HouseV} : (wHs E q ah vh)[0]? = some (q, .inl (eH E, 10, .inr (.inr (.inr (.inr (hsF ah)))))) := rfl
/-! methods that throw -/
end WWx
