section PUSH
theorem updL_i {f : Nat → Int64} {i : Nat} {x : Int64} : vp_updL f i x i = x := if_pos rfl
theorem updL_n {f : Nat → Int64} {i j : Nat} {x : Int64} (h : j ≠ i) : vp_updL f i x j = f j := if_neg h
theorem Im20 : (-20 : Int32) = I (-20) := rfl
theorem Im21 : (-21 : Int32) = I (-21) := rfl
theorem Im22 : (-22 : Int32) = I (-22) := rfl
theorem Im23 : (-23 : Int32) = I (-23) := rfl
theorem Im24 : (-24 : Int32) = I (-24) := rfl
theorem Im25 : (-25 : Int32) = I (-25) := rfl
theorem ne23 {y : Int} (h : y ≠ -23) (h1 : -2147483648 ≤ y) (h2 : y ≤ 2147483647) : ¬ I y = (-23 : Int32) := by rw [Im23]; exact I_ne h h1 h2 (by omega) (by omega)
theorem le20t {y : Int} (h : y ≤ -20) (h1 : -2147483648 ≤ y) : I y ≤ (-20 : Int32) := by rw [Im20]; exact I_le_t h h1 (by omega)
theorem le20f {y : Int} (h : -20 < y) (h2 : y ≤ 2147483647) : ¬ I y ≤ (-20 : Int32) := by rw [Im20]; exact I_le_f h (by omega) h2
variable {R a b c : Nat} {C C' : Nat → Int32} {u w : Nat → Int}
end PUSH

