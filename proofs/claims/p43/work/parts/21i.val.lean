section LNG
def L (z : Int) : Int64 := Int64.ofInt z
theorem LI_add (a b : Int) : L a + L b = L (a + b) := (Int64.ofInt_add a b).symm
theorem L_sub (a b : Int) : L a - L b = L (a - b) := by unfold L; rw [Int64.ofInt_sub]
theorem L_mul (a b : Int) : L a * L b = L (a * b) := by unfold L; rw [Int64.ofInt_mul]
theorem L_int {a : Int} (h1 : -9000000000000000000 ≤ a) (h2 : a ≤ 9000000000000000000) : (L a).toInt = a := Int64.toInt_ofInt_of_le (by omega) (by omega)
theorem L_of {a : Int} (h1 : -2147483648 ≤ a) (h2 : a ≤ 2147483647) : Int32.toInt64 (I a) = L a := by
  apply Int64.toInt_inj.mp
  rw [Int32.toInt_toInt64, I_int h1 h2, L_int (by omega) (by omega)]
theorem I_of (a : Int) : Int64.toInt32 (L a) = I a := Int64.toInt32_ofInt
theorem L_lt {a b : Int} (ha1 : -9000000000000000000 ≤ a) (ha2 : a ≤ 9000000000000000000) (hb1 : -9000000000000000000 ≤ b) (hb2 : b ≤ 9000000000000000000) : (L a < L b) = (a < b) := by
  rw [Int64.lt_iff_toInt_lt, L_int ha1 ha2, L_int hb1 hb2]
theorem L_eq {a b : Int} (ha1 : -9000000000000000000 ≤ a) (ha2 : a ≤ 9000000000000000000) (hb1 : -9000000000000000000 ≤ b) (hb2 : b ≤ 9000000000000000000) : (L a = L b) = (a = b) := by
  apply propext
  constructor
  · intro h
    have h2 := congrArg Int64.toInt h
    rw [L_int ha1 ha2, L_int hb1 hb2] at h2
    exact h2
  · intro h; rw [h]
theorem lcmp_L {a b : Int} (ha1 : -9000000000000000000 ≤ a) (ha2 : a ≤ 9000000000000000000) (hb1 : -9000000000000000000 ≤ b) (hb2 : b ≤ 9000000000000000000) : lg_cmp (L a) (L b) = if b < a then 1 else if a = b then 0 else -1 := by
  unfold lg_cmp
  have e1 : (L a > L b) = (b < a) := L_lt hb1 hb2 ha1 ha2
  have e2 : (L a = L b) = (a = b) := L_eq ha1 ha2 hb1 hb2
  by_cases c : b < a
  · rw [if_pos c, if_pos (by rw [e1]; exact c)]
  · rw [if_neg c, if_neg (by rw [e1]; exact c)]
    by_cases d : a = b
    · rw [if_pos d, if_pos (by rw [e2]; exact d)]
    · rw [if_neg d, if_neg (by rw [e2]; exact d)]
end LNG
section VAL
variable {t : ToksV} {l f e k : Nat}
/-- the model's number of n digits behind f -/
def nC (b : Nat → Nat) (f : Nat) : Nat → Nat
  | 0 => 0
  | k + 1 => min 2000000000 (nC b f k * 10 + (b (f + k) - 48))
theorem nC_le {b : Nat → Nat} {f : Nat} (k : Nat) : nC b f k ≤ 2000000000 := by
  cases k with
  | zero => exact Nat.zero_le _
  | succ k => unfold nC; omega
theorem nAC {b : Nat → Nat} {f : Nat} (k : Nat) (h : ∀ i, i < k → isD (b (f + i)) = true) : nA b f k = nC b f k ∨ (9999 < nA b f k ∧ 9999 < nC b f k) := by
  induction k with
  | zero => exact Or.inl rfl
  | succ k ih =>
    have h1 := ih fun i hi => h i (by omega)
    have h2 : 48 ≤ b (f + k) ∧ b (f + k) ≤ 57 := of_decide_eq_true (h k (by omega))
    have h3 := nA_le k fun i hi => h i (by omega)
    unfold nA nC
    split <;> omega
/-- words -/
def mt (t : ToksV) (f : Nat) (s : List Int32) : Nat → Nat → Bool
  | 0, _ => true
  | q + 1, j => decide (Toks_bytes t (f + j) = s.getD j 0) && mt t f s q (j + 1)
theorem stLen_I (i : Nat) : stLen i = I ((stL i).length : Int) := (I_ofNat _).symm
theorem stCh_I (i : Nat) {j : Nat} (h : j < 2147483648) : stCh i (I (j : Int)) = (stL i).getD j 0 := by
  unfold stCh
  rw [I_clamp j h]
end VAL

