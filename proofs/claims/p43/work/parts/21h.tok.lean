section TOK
/-- the bytes of the text -/
def byt (t : ToksV) (i : Nat) : Nat := (Toks_bytes t i).toNatClampNeg
def kpt (t : ToksV) : (Nat → Int32) × Int32 × Int32 := (Toks_bytes t, Toks_filled t, Toks_limit t)
theorem byt_c {t t' : ToksV} (h : kpt t' = kpt t) : byt t' = byt t := by
  have : Toks_bytes t' = Toks_bytes t := congrArg (fun q => q.1) h
  unfold byt
  rw [this]
def isL (b : Nat) : Bool := decide (97 ≤ b ∧ b ≤ 122)
def isD (b : Nat) : Bool := decide (48 ≤ b ∧ b ≤ 57)
theorem letter_s {b : Nat} (h : b < 256) : (if I (b : Int) < 97 then some false else if 122 < I (b : Int) then some false else some true) = some (isL b) := by
  unfold isL
  by_cases c1 : b < 97
  · rw [if_pos (show I (b : Int) < (97 : Int32) from I_lt_t (a := (b : Int)) (b := 97) (by omega) (by omega) (by omega)), decide_eq_false (by omega)]
  · rw [if_neg (show ¬ I (b : Int) < (97 : Int32) from I_lt_f (a := (b : Int)) (b := 97) (by omega) (by omega) (by omega))]
    by_cases c2 : 122 < b
    · rw [if_pos (show (122 : Int32) < I (b : Int) from I_lt_t (a := 122) (b := (b : Int)) (by omega) (by omega) (by omega)), decide_eq_false (by omega)]
    · rw [if_neg (show ¬ (122 : Int32) < I (b : Int) from I_lt_f (a := 122) (b := (b : Int)) (by omega) (by omega) (by omega)), decide_eq_true (by omega)]
theorem digit_s {b : Nat} (h : b < 256) : (if I (b : Int) < 48 then some false else if 57 < I (b : Int) then some false else some true) = some (isD b) := by
  unfold isD
  by_cases c1 : b < 48
  · rw [if_pos (show I (b : Int) < (48 : Int32) from I_lt_t (a := (b : Int)) (b := 48) (by omega) (by omega) (by omega)), decide_eq_false (by omega)]
  · rw [if_neg (show ¬ I (b : Int) < (48 : Int32) from I_lt_f (a := (b : Int)) (b := 48) (by omega) (by omega) (by omega))]
    by_cases c2 : 57 < b
    · rw [if_pos (show (57 : Int32) < I (b : Int) from I_lt_t (a := 57) (b := (b : Int)) (by omega) (by omega) (by omega)), decide_eq_false (by omega)]
    · rw [if_neg (show ¬ (57 : Int32) < I (b : Int) from I_lt_f (a := 57) (b := (b : Int)) (by omega) (by omega) (by omega)), decide_eq_true (by omega)]
/-- what a byte is that is no blank: 1 in a word, 2 in a number, 3 a sign -/
def kdN (b : Nat) : Nat := if isL b = true then 1 else if isD b = true then 2 else 3
theorem kind14_s {b : Nat} (h : b < 256) (hl : isL b = false) : Toks_kindOf_14 (I (b : Int)) = some (I (kdN b : Int)) := by
  have e : kdN b = if isD b = true then 2 else 3 := by unfold kdN; rw [hl]; rfl
  rw [e]
  unfold Toks_kindOf_14 isD
  by_cases c1 : b < 48
  · rw [if_pos (show I (b : Int) < (48 : Int32) from I_lt_t (a := (b : Int)) (b := 48) (by omega) (by omega) (by omega)), decide_eq_false (by omega)]; rfl
  · rw [if_neg (show ¬ I (b : Int) < (48 : Int32) from I_lt_f (a := (b : Int)) (b := 48) (by omega) (by omega) (by omega))]
    by_cases c2 : 57 < b
    · rw [if_pos (show (57 : Int32) < I (b : Int) from I_lt_t (a := 57) (b := (b : Int)) (by omega) (by omega) (by omega)), decide_eq_false (by omega)]; rfl
    · rw [if_neg (show ¬ (57 : Int32) < I (b : Int) from I_lt_f (a := 57) (b := (b : Int)) (by omega) (by omega) (by omega)), decide_eq_true (by omega)]; rfl
theorem kind_s {b : Nat} (h : b < 256) : Toks_kindOf (I (b : Int)) = some (I (kdN b : Int)) := by
  unfold Toks_kindOf
  by_cases c1 : b < 97
  · rw [if_pos (show I (b : Int) < (97 : Int32) from I_lt_t (a := (b : Int)) (b := 97) (by omega) (by omega) (by omega))]
    exact kind14_s h (decide_eq_false (by omega))
  · rw [if_neg (show ¬ I (b : Int) < (97 : Int32) from I_lt_f (a := (b : Int)) (b := 97) (by omega) (by omega) (by omega))]
    by_cases c2 : 122 < b
    · rw [if_pos (show (122 : Int32) < I (b : Int) from I_lt_t (a := 122) (b := (b : Int)) (by omega) (by omega) (by omega))]
      exact kind14_s h (decide_eq_false (by omega))
    · rw [if_neg (show ¬ (122 : Int32) < I (b : Int) from I_lt_f (a := 122) (b := (b : Int)) (by omega) (by omega) (by omega))]
      have e : kdN b = 1 := by unfold kdN; rw [if_pos (show isL b = true from decide_eq_true (by omega))]
      rw [e]; rfl
theorem kd_L {b : Nat} (h : isL b = true) : kdN b = 1 := by unfold kdN; rw [if_pos h]
theorem kd_D {b : Nat} (h0 : isL b = false) (h : isD b = true) : kdN b = 2 := by unfold kdN; rw [if_neg (by rw [h0]; decide), if_pos h]
theorem kd_S {b : Nat} (h0 : isL b = false) (h : isD b = false) : kdN b = 3 := by unfold kdN; rw [if_neg (by rw [h0]; decide), if_neg (by rw [h]; decide)]
theorem D_nL {b : Nat} (h : isD b = true) : isL b = false := by
  have h2 : 48 ≤ b ∧ b ≤ 57 := of_decide_eq_true h
  exact decide_eq_false (by omega)
theorem kd_le (b : Nat) : 1 ≤ kdN b ∧ kdN b ≤ 3 := by unfold kdN; split; exact ⟨by omega, by omega⟩; split <;> exact ⟨by omega, by omega⟩
theorem kd_1 {b : Nat} (h : isL b = false) : kdN b ≠ 1 := by
  cases hd : isD b
  · rw [kd_S h hd]; decide
  · rw [kd_D h hd]; decide
theorem kd_2 {b : Nat} (h : isD b = false) : kdN b ≠ 2 := by
  cases hl : isL b
  · rw [kd_S hl h]; decide
  · rw [kd_L hl]; decide
theorem kd_ne {b k : Nat} (h : kdN b ≠ k) (hk : k ≤ 3) : ¬ I (kdN b : Int) = I (k : Int) := by
  have h1 := kd_le b
  exact I_ne (by omega) (by omega) (by omega) (by omega) (by omega)
variable {t : ToksV} {l : Nat}
theorem neg_f {p : Nat} (hp : p < 2147483648) : ¬ I (p : Int) < (0 : Int32) := I_lt_f (a := (p : Int)) (b := 0) (by omega) (by omega) (by omega)
/-- the class's number of n digits behind f -/
def nA (b : Nat → Nat) (f : Nat) : Nat → Nat
  | 0 => 0
  | k + 1 => if 9999 < nA b f k then nA b f k else nA b f k * 10 + (b (f + k) - 48)
theorem nA_le {b : Nat → Nat} {f : Nat} (k : Nat) (h : ∀ i, i < k → isD (b (f + i)) = true) : nA b f k ≤ 99999 := by
  induction k with
  | zero => exact Nat.zero_le _
  | succ k ih =>
    have h1 := ih fun i hi => h i (by omega)
    have h2 : 48 ≤ b (f + k) ∧ b (f + k) ≤ 57 := of_decide_eq_true (h k (by omega))
    unfold nA
    split <;> omega
end TOK

