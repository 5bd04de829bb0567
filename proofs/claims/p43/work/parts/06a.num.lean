section NUM
/-- numbers of the machine by integers -/
def I (z : Int) : Int32 := Int32.ofInt z
theorem I_add (a b : Int) : I a + I b = I (a + b) := (Int32.ofInt_add a b).symm
theorem I_sub (a b : Int) : I a - I b = I (a - b) := by unfold I; rw [Int32.ofInt_sub]
theorem I_mul (a b : Int) : I a * I b = I (a * b) := by unfold I; rw [Int32.ofInt_mul]
theorem I_neg (a : Int) : -I a = I (-a) := Int32.neg_ofInt
theorem I_self (x : Int32) : I x.toInt = x := Int32.ofInt_toInt x
theorem I0 : (0 : Int32) = I 0 := rfl
theorem I1 : (1 : Int32) = I 1 := rfl
theorem I2 : (2 : Int32) = I 2 := rfl
theorem I3 : (3 : Int32) = I 3 := rfl
theorem I4 : (4 : Int32) = I 4 := rfl
theorem I5 : (5 : Int32) = I 5 := rfl
theorem I6 : (6 : Int32) = I 6 := rfl
theorem I7 : (7 : Int32) = I 7 := rfl
theorem I8 : (8 : Int32) = I 8 := rfl
theorem I9 : (9 : Int32) = I 9 := rfl
theorem I10 : (10 : Int32) = I 10 := rfl
theorem I11 : (11 : Int32) = I 11 := rfl
theorem I12 : (12 : Int32) = I 12 := rfl
theorem I20 : (20 : Int32) = I 20 := rfl
theorem I24 : (24 : Int32) = I 24 := rfl
theorem I40 : (40 : Int32) = I 40 := rfl
theorem I64 : (64 : Int32) = I 64 := rfl
theorem I99 : (99 : Int32) = I 99 := rfl
theorem I124 : (124 : Int32) = I 124 := rfl
theorem I172 : (172 : Int32) = I 172 := rfl
theorem Im1 : (-1 : Int32) = I (-1) := rfl
theorem I_int {a : Int} (h1 : -2147483648 ≤ a) (h2 : a ≤ 2147483647) : (I a).toInt = a := Int32.toInt_ofInt_of_le (by omega) (by omega)
theorem I_lt {a b : Int} (ha1 : -2147483648 ≤ a) (ha2 : a ≤ 2147483647) (hb1 : -2147483648 ≤ b) (hb2 : b ≤ 2147483647) : (I a < I b) = (a < b) := by
  rw [Int32.lt_iff_toInt_lt, I_int ha1 ha2, I_int hb1 hb2]
theorem I_le {a b : Int} (ha1 : -2147483648 ≤ a) (ha2 : a ≤ 2147483647) (hb1 : -2147483648 ≤ b) (hb2 : b ≤ 2147483647) : (I a ≤ I b) = (a ≤ b) := by
  rw [Int32.le_iff_toInt_le, I_int ha1 ha2, I_int hb1 hb2]
theorem I_eq {a b : Int} (ha1 : -2147483648 ≤ a) (ha2 : a ≤ 2147483647) (hb1 : -2147483648 ≤ b) (hb2 : b ≤ 2147483647) : (I a = I b) = (a = b) := by
  apply propext
  constructor
  · intro h
    have h2 := congrArg Int32.toInt h
    rw [I_int ha1 ha2, I_int hb1 hb2] at h2
    exact h2
  · intro h; rw [h]
theorem I_nat {a : Int} (h1 : -2147483648 ≤ a) (h2 : a ≤ 2147483647) : (I a).toNatClampNeg = a.toNat := by
  unfold Int32.toNatClampNeg
  rw [I_int h1 h2]
theorem inB_I {a : Int} {n : Nat} (h1 : -2147483648 ≤ a) (h2 : a ≤ 2147483647) : inB (I a) n = decide (0 ≤ a ∧ a < n) := by
  unfold inB
  rw [show decide (I a < 0) = decide (a < 0) from decide_eq_decide.mpr (by rw [I0, I_lt h1 h2 (by omega) (by omega)]), I_nat h1 h2]
  by_cases h : 0 ≤ a
  · by_cases h3 : a < n
    · rw [decide_eq_false (by omega), decide_eq_false (by omega), decide_eq_true (by omega)]; rfl
    · rw [decide_eq_false (by omega), decide_eq_true (by omega), decide_eq_false (by omega)]; rfl
  · rw [decide_eq_true (by omega), decide_eq_false (p := 0 ≤ a ∧ a < n) (by omega)]; rfl
theorem gd_t {α : Type} {b : Bool} {k : Option α} (h : b = true) : gd b k = k := by rw [h]; rfl
theorem gd_I {α : Type} {a : Int} {n : Nat} {k : Option α} (h0 : 0 ≤ a) (h1 : a < n) (h2 : a ≤ 2147483647) : gd (inB (I a) n) k = k := gd_t (by rw [inB_I (by omega) h2, decide_eq_true (by omega)])
theorem nmL_e {α β : Type} (v : α) (k : α → Option β) : nmL v k = k v := rfl
theorem bind_s {α β : Type} (v : α) (k : α → Option β) : Option.bind (some v) k = k v := rfl
theorem bif_t {α : Type} (x y : α) : (bif true then x else y) = x := rfl
theorem bif_f {α : Type} (x y : α) : (bif false then x else y) = y := rfl
theorem nz_I {a : Int} (h1 : 0 < a) (h2 : a ≤ 2147483647) : nz (I a) = true := by
  unfold nz
  rw [I0]
  exact decide_eq_true (by rw [ne_eq, I_eq (by omega) h2 (by omega) (by omega)]; omega)
theorem I_div {a b : Int} (ha : 0 ≤ a) (ha2 : a ≤ 2147483647) (hb : 0 < b) (hb2 : b ≤ 2147483647) : I a / I b = I (a / b) := by
  apply Int32.toInt_inj.mp
  have hd : 0 ≤ a / b := Int.ediv_nonneg ha (by omega)
  have hd2 : a / b ≤ a := Int.ediv_le_self _ ha
  rw [Int32.toInt_div_of_ne_left, I_int (by omega) ha2, I_int (by omega) hb2, I_int (by omega) (by omega), Int.tdiv_eq_ediv_of_nonneg ha]
  intro h
  have h2 := congrArg Int32.toInt h
  rw [I_int (by omega) ha2, Int32.toInt_minValue] at h2
  omega
theorem I_rem {a b : Int} (ha : 0 ≤ a) (ha2 : a ≤ 2147483647) (hb : 0 < b) (hb2 : b ≤ 2147483647) : I a - I a / I b * I b = I (a % b) := by
  rw [I_div ha ha2 hb hb2, I_mul, I_sub, Int.emod_def, Int.mul_comm b]
/-! sets as bits -/
theorem I_ofNat (n : Nat) : I (n : Int) = Int32.ofNat n := Int32.ofInt_eq_ofNat
theorem I_or (a b : Nat) : I (a : Int) ||| I (b : Int) = I ((a ||| b : Nat) : Int) := by
  rw [I_ofNat, I_ofNat, I_ofNat, ← Int32.ofBitVec_ofNat, ← Int32.ofBitVec_ofNat, ← Int32.ofBitVec_ofNat, ← Int32.ofBitVec_or, BitVec.ofNat_or]
theorem I_and (a b : Nat) : I (a : Int) &&& I (b : Int) = I ((a &&& b : Nat) : Int) := by
  rw [I_ofNat, I_ofNat, I_ofNat, ← Int32.ofBitVec_ofNat, ← Int32.ofBitVec_ofNat, ← Int32.ofBitVec_ofNat, ← Int32.ofBitVec_and, BitVec.ofNat_and]
/-- a without b -/
def sdf (a b : Nat) : Nat := a ^^^ (a &&& b)
theorem sdf_bit (a b i : Nat) : (sdf a b).testBit i = (a.testBit i && !b.testBit i) := by
  unfold sdf
  rw [Nat.testBit_xor, Nat.testBit_and]
  cases a.testBit i <;> cases b.testBit i <;> rfl
theorem I_andn (a b : Nat) : I (a : Int) &&& (I (b : Int) ^^^ (-1)) = I ((sdf a b : Nat) : Int) := by
  rw [I_ofNat, I_ofNat, I_ofNat, ← Int32.ofBitVec_ofNat, ← Int32.ofBitVec_ofNat, ← Int32.ofBitVec_ofNat]
  apply Int32.toBitVec_inj.mp
  unfold sdf
  rw [BitVec.ofNat_xor, BitVec.ofNat_and]
  generalize BitVec.ofNat 32 a = x
  generalize BitVec.ofNat 32 b = y
  show x &&& (y ^^^ (-1#32)) = x ^^^ (x &&& y)
  rw [BitVec.neg_one_eq_allOnes]
  ext i hi
  simp only [BitVec.getElem_and, BitVec.getElem_xor, BitVec.getElem_allOnes]
  cases x[i] <;> cases y[i] <;> rfl
theorem I_shl : ∀ k : Nat, k < 31 → (1 : Int32) <<< (I (k : Int) &&& 31) = I ((1 <<< k : Nat) : Int) := by decide
theorem bit_lt {n : Nat} {k : Nat} (h : k < n) : 1 <<< k < 2 ^ n := by
  rw [Nat.one_shiftLeft]
  exact Nat.pow_lt_pow_right (by decide) h
theorem shamt : ∀ k : Nat, k < 32 → ((I (k : Int) &&& 31).toBitVec.smod 32).toNat = k := by decide
theorem I_has {a k : Nat} (ha : a < 2147483648) (hk : k < 32) : ((I (a : Int) >>> (I (k : Int) &&& 31)) &&& 1 = 0) = (a.testBit k = false) := by
  have h1 : (I (a : Int) >>> (I (k : Int) &&& 31)) = I ((a >>> k : Nat) : Int) := by
    apply Int32.toBitVec_inj.mp
    show BitVec.sshiftRight (I (a : Int)).toBitVec (((I (k : Int) &&& 31).toBitVec.smod 32).toNat) = _
    rw [shamt k hk, I_ofNat, I_ofNat]
    show BitVec.sshiftRight (BitVec.ofNat 32 a) k = BitVec.ofNat 32 (a >>> k)
    have hm : (BitVec.ofNat 32 a).msb = false := by
      rw [BitVec.msb_eq_false_iff_two_mul_lt, BitVec.toNat_ofNat]
      omega
    rw [BitVec.sshiftRight_eq_of_msb_false hm]
    apply BitVec.eq_of_toNat_eq
    rw [BitVec.toNat_ushiftRight, BitVec.toNat_ofNat, BitVec.toNat_ofNat]
    have : a >>> k ≤ a := by rw [Nat.shiftRight_eq_div_pow]; exact Nat.div_le_self _ _
    rw [Nat.mod_eq_of_lt (by omega), Nat.mod_eq_of_lt (by omega)]
  rw [h1, I1, show (1 : Int) = ((1 : Nat) : Int) from rfl, I_and, I0, I_eq (by omega) (by have : a >>> k &&& 1 ≤ 1 := Nat.and_le_right; omega) (by omega) (by omega)]
  apply propext
  rw [Nat.testBit, Nat.and_comm]
  constructor
  · intro h
    have h2 : 1 &&& a >>> k = 0 := by omega
    rw [h2]; rfl
  · intro h
    by_cases h2 : 1 &&& a >>> k = 0
    · omega
    · rw [show ((1 &&& a >>> k) != 0) = true from by simpa using h2] at h
      cases h
/-- how many below n -/
def cnt (p : Nat → Bool) : Nat → Nat
  | 0 => 0
  | n + 1 => cnt p n + (bif p n then 1 else 0)
theorem cnt_le (p : Nat → Bool) (n : Nat) : cnt p n ≤ n := by
  induction n with
  | zero => exact Nat.le_refl 0
  | succ n ih =>
    unfold cnt
    cases p n
    · show cnt p n + 0 ≤ n + 1; omega
    · show cnt p n + 1 ≤ n + 1; omega
theorem cnt_congr {p q : Nat → Bool} {n : Nat} (h : ∀ i, i < n → p i = q i) : cnt p n = cnt q n := by
  induction n with
  | zero => rfl
  | succ n ih => unfold cnt; rw [ih (fun i hi => h i (by omega)), h n (by omega)]
/-- the set of those below n -/
def msk (p : Nat → Bool) : Nat → Nat
  | 0 => 0
  | n + 1 => msk p n ||| (bif p n then 1 <<< n else 0)
theorem msk_bit (p : Nat → Bool) (n i : Nat) : (msk p n).testBit i = (decide (i < n) && p i) := by
  induction n with
  | zero => simp [msk]
  | succ n ih =>
    rw [msk, Nat.testBit_or, ih]
    cases hp : p n
    · rw [bif_f, Nat.zero_testBit, Bool.or_false]
      by_cases h : i < n
      · rw [decide_eq_true h, decide_eq_true (by omega)]
      · by_cases h2 : i = n
        · subst h2; rw [hp, Bool.and_false, Bool.and_false]
        · rw [decide_eq_false h, decide_eq_false (by omega)]
    · rw [bif_t, Nat.one_shiftLeft, Nat.testBit_two_pow]
      by_cases h2 : i = n
      · subst h2; simp [hp]
      · rw [show decide (n = i) = false from decide_eq_false (fun h => h2 h.symm), Bool.or_false]
        by_cases h : i < n
        · rw [decide_eq_true h, decide_eq_true (by omega)]
        · rw [decide_eq_false h, decide_eq_false (by omega)]
/-- the union of f 0 .. f (n - 1) -/
def ors (f : Nat → Nat) : Nat → Nat
  | 0 => 0
  | n + 1 => ors f n ||| f n
theorem ors_bit (f : Nat → Nat) (n i : Nat) : (ors f n).testBit i = true ↔ ∃ g, g < n ∧ (f g).testBit i = true := by
  induction n with
  | zero => simp [ors]
  | succ n ih =>
    rw [ors, Nat.testBit_or, Bool.or_eq_true, ih]
    constructor
    · rintro (⟨g, hg, h⟩ | h)
      · exact ⟨g, by omega, h⟩
      · exact ⟨n, by omega, h⟩
    · rintro ⟨g, hg, h⟩
      by_cases hgn : g = n
      · subst hgn; exact Or.inr h
      · exact Or.inl ⟨g, by omega, h⟩
theorem or_lt {a b n : Nat} (ha : a < 2 ^ n) (hb : b < 2 ^ n) : a ||| b < 2 ^ n := Nat.or_lt_two_pow ha hb
theorem ors_lt {f : Nat → Nat} {n k : Nat} (h : ∀ i, i < n → f i < 2 ^ k) : ors f n < 2 ^ k := by
  induction n with
  | zero => exact Nat.two_pow_pos k
  | succ n ih => exact or_lt (ih (fun i hi => h i (by omega))) (h n (by omega))
theorem msk_lt (p : Nat → Bool) (n : Nat) : msk p n < 2 ^ n := by
  induction n with
  | zero => exact Nat.two_pow_pos 0
  | succ n ih =>
    refine or_lt (Nat.lt_of_lt_of_le ih (Nat.pow_le_pow_right (by decide) (by omega))) ?_
    cases p n
    · exact Nat.two_pow_pos _
    · exact bit_lt (by omega)
theorem sdf_le (a b : Nat) : sdf a b ≤ a := by
  apply Nat.le_of_testBit
  intro i h
  rw [sdf_bit] at h
  exact (Bool.and_eq_true_iff.mp h).1
theorem nat_ext {a b : Nat} (h : ∀ i, a.testBit i = b.testBit i) : a = b := Nat.eq_of_testBit_eq h
end NUM

