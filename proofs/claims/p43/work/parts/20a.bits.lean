section BITS
theorem I_ushr {n k : Nat} {kk : Int32} (hn : n < 4294967296) (hk : ((Int32.toUInt32 kk &&& Int32.toUInt32 31).toBitVec % 32#32).toNat = k) : (Int32.toUInt32 (I (n : Int)) >>> (Int32.toUInt32 kk &&& Int32.toUInt32 31)).toInt32 = I ((n / 2 ^ k : Nat) : Int) := by
  apply Int32.toBitVec_inj.mp
  rw [I_ofNat, I_ofNat]
  show (BitVec.ofNat 32 n) >>> ((Int32.toUInt32 kk &&& Int32.toUInt32 31).toBitVec % 32#32).toNat = BitVec.ofNat 32 (n / 2 ^ k)
  rw [hk]
  apply BitVec.eq_of_toNat_eq
  have hd : n / 2 ^ k ≤ n := Nat.div_le_self _ _
  rw [BitVec.toNat_ushiftRight, BitVec.toNat_ofNat, BitVec.toNat_ofNat, Nat.mod_eq_of_lt (by omega), Nat.shiftRight_eq_div_pow, Nat.mod_eq_of_lt (by omega)]
/-- a byte apart -/
theorem and_lane (h l m b : Nat) (hl : l < 256) (hb : b < 256) : (256 * h + l) &&& (256 * m + b) = 256 * (h &&& m) + (l &&& b) := by
  have e1 := Nat.and_div_two_pow (a := 256 * h + l) (b := 256 * m + b) (n := 8)
  have e2 := Nat.and_mod_two_pow (a := 256 * h + l) (b := 256 * m + b) (n := 8)
  rw [show (2 : Nat) ^ 8 = 256 from rfl] at e1 e2
  rw [show (256 * h + l) / 256 = h by omega, show (256 * m + b) / 256 = m by omega] at e1
  rw [show (256 * h + l) % 256 = l by omega, show (256 * m + b) % 256 = b by omega] at e2
  omega
def pf1 (m x : Nat) : Nat := x - (x / 2 &&& m)
def pf2 (m x : Nat) : Nat := (x &&& m) + (x / 4 &&& m)
def pf3 (m x : Nat) : Nat := (x + x / 16) &&& m
theorem pf1_b : ∀ l, l < 256 → ∀ e, e < 2 → ((128 * e + l / 2) &&& 0x55 = l / 2 &&& 0x55) := by decide +kernel
theorem pf2_b : ∀ l, l < 256 → ∀ e, e < 4 → ((64 * e + l / 4) &&& 0x33 = l / 4 &&& 0x33) := by decide +kernel
theorem pf1_lane {m h l : Nat} (hl : l < 256) : pf1 (256 * m + 0x55) (256 * h + l) = 256 * pf1 m h + pf1 0x55 l := by
  unfold pf1
  rw [show (256 * h + l) / 2 = 256 * (h / 2) + (128 * (h % 2) + l / 2) by omega, and_lane _ _ _ _ (by omega) (by decide), pf1_b l hl _ (by omega)]
  have h1 : h / 2 &&& m ≤ h / 2 := Nat.and_le_left
  have h2 : l / 2 &&& 0x55 ≤ l / 2 := Nat.and_le_left
  omega
theorem pf2_lane {m h l : Nat} (hl : l < 256) : pf2 (256 * m + 0x33) (256 * h + l) = 256 * pf2 m h + pf2 0x33 l := by
  unfold pf2
  rw [show (256 * h + l) / 4 = 256 * (h / 4) + (64 * (h % 4) + l / 4) by omega, and_lane _ _ _ _ hl (by decide), and_lane _ _ _ _ (by omega) (by decide), pf2_b l hl _ (by omega)]
  omega
theorem pf3_lane {m h l : Nat} (hl : l ≤ 68) (hh : h % 16 ≤ 4) : pf3 (256 * m + 0x0f) (256 * h + l) = 256 * pf3 m h + pf3 0x0f l := by
  unfold pf3
  rw [show (256 * h + l) + (256 * h + l) / 16 = 256 * (h + h / 16) + (16 * (h % 16) + (l + l / 16)) by omega, and_lane _ _ _ _ (by omega) (by decide)]
  have e1 : (16 * (h % 16) + (l + l / 16)) &&& 0x0f = (16 * (h % 16) + (l + l / 16)) % 16 := Nat.and_two_pow_sub_one_eq_mod _ 4
  have e2 : (l + l / 16) &&& 0x0f = (l + l / 16) % 16 := Nat.and_two_pow_sub_one_eq_mod _ 4
  rw [e1, e2]
  omega
/-- how many bits a byte has -/
def pop8 (l : Nat) : Nat := pf3 0x0f (pf2 0x33 (pf1 0x55 l))
theorem pop8_b : ∀ l, l < 256 → pf1 0x55 l < 256 ∧ pf2 0x33 (pf1 0x55 l) ≤ 68 ∧ pf2 0x33 (pf1 0x55 l) % 16 ≤ 4 ∧ pop8 l = cnt l.testBit 8 := by decide +kernel
theorem cnt_add (p : Nat → Bool) (a n : Nat) : cnt p (a + n) = cnt p a + cnt (fun i => p (a + i)) n := by
  induction n with
  | zero => rfl
  | succ n ih =>
    show cnt p (a + n) + (bif p (a + n) then 1 else 0) = cnt p a + (cnt (fun i => p (a + i)) n + (bif p (a + n) then 1 else 0))
    rw [ih]
    omega
theorem cnt_byte {h l n : Nat} (hl : l < 256) : cnt (256 * h + l).testBit (8 + n) = cnt l.testBit 8 + cnt h.testBit n := by
  have e : ∀ j, (256 * h + l).testBit j = if j < 8 then l.testBit j else h.testBit (j - 8) := fun j => Nat.testBit_two_pow_mul_add h (i := 8) hl j
  rw [cnt_add]
  congr 1
  · exact cnt_congr fun i hi => by rw [e, if_pos hi]
  · exact cnt_congr fun i hi => by rw [e, if_neg (by omega), show 8 + i - 8 = i by omega]
theorem pop_bytes {b0 b1 b2 b3 : Nat} (h0 : b0 < 256) (h1 : b1 < 256) (h2 : b2 < 256) (h3 : b3 < 256) : pf3 0x0f0f0f0f (pf2 0x33333333 (pf1 0x55555555 (256 * (256 * (256 * b3 + b2) + b1) + b0))) = 256 * (256 * (256 * pop8 b3 + pop8 b2) + pop8 b1) + pop8 b0 := by
  obtain ⟨p0, q0, r0, -⟩ := pop8_b b0 h0
  obtain ⟨p1, q1, r1, -⟩ := pop8_b b1 h1
  obtain ⟨p2, q2, r2, -⟩ := pop8_b b2 h2
  obtain ⟨p3, q3, r3, -⟩ := pop8_b b3 h3
  rw [show (0x55555555 : Nat) = 256 * (256 * (256 * 0x55 + 0x55) + 0x55) + 0x55 from rfl, pf1_lane h0, pf1_lane h1, pf1_lane h2,
    show (0x33333333 : Nat) = 256 * (256 * (256 * 0x33 + 0x33) + 0x33) + 0x33 from rfl, pf2_lane p0, pf2_lane p1, pf2_lane p2,
    show (0x0f0f0f0f : Nat) = 256 * (256 * (256 * 0x0f + 0x0f) + 0x0f) + 0x0f from rfl, pf3_lane q0 (by omega), pf3_lane q1 (by omega), pf3_lane q2 (by omega)]
  rfl
theorem bitCount_s {x : Nat} (hx : x < 2147483648) : J_bitCount (I (x : Int)) = some (I ((cnt x.testBit 32 : Nat) : Int)) := by
  have hle : x / 2 &&& 0x55555555 ≤ x / 2 := Nat.and_le_left
  have ex : x = 256 * (256 * (256 * (x / 16777216) + x / 65536 % 256) + x / 256 % 256) + x % 256 := by omega
  have h0 : x % 256 < 256 := by omega
  have h1 : x / 256 % 256 < 256 := by omega
  have h2 : x / 65536 % 256 < 256 := by omega
  have h3 : x / 16777216 < 256 := by omega
  have key : pf3 0x0f0f0f0f (pf2 0x33333333 (pf1 0x55555555 x)) = 256 * (256 * (256 * pop8 (x / 16777216) + pop8 (x / 65536 % 256)) + pop8 (x / 256 % 256)) + pop8 (x % 256) := by
    have := pop_bytes h0 h1 h2 h3
    rw [← ex] at this
    exact this
  have hc : cnt x.testBit 32 = pop8 (x % 256) + (pop8 (x / 256 % 256) + (pop8 (x / 65536 % 256) + pop8 (x / 16777216))) := by
    have c : cnt (256 * (256 * (256 * (x / 16777216) + x / 65536 % 256) + x / 256 % 256) + x % 256).testBit (8 + (8 + (8 + 8))) = _ := cnt_byte h0
    rw [cnt_byte h1, cnt_byte h2, ← (pop8_b _ h0).2.2.2, ← (pop8_b _ h1).2.2.2, ← (pop8_b _ h2).2.2.2, ← (pop8_b _ h3).2.2.2, ← ex] at c
    exact c
  have hq : ∀ l, l < 256 → pop8 l ≤ 8 := fun l hl => by rw [(pop8_b l hl).2.2.2]; exact cnt_le _ _
  have s0 := hq _ h0
  have s1 := hq _ h1
  have s2 := hq _ h2
  have s3 := hq _ h3
  unfold J_bitCount
  rw [I_ushr (k := 1) (by omega) (by decide), show (1431655765 : Int32) = I ((0x55555555 : Nat) : Int) from by decide, I_and, I_sub, show (x : Int) - ((x / 2 ^ 1 &&& 0x55555555 : Nat) : Int) = ((pf1 0x55555555 x : Nat) : Int) from by
    show (x : Int) - ((x / 2 &&& 0x55555555 : Nat) : Int) = ((x - (x / 2 &&& 0x55555555) : Nat) : Int)
    omega, nmL_e]
  have a1 : pf1 0x55555555 x ≤ x := Nat.sub_le _ _
  generalize pf1 0x55555555 x = y at key a1 ⊢
  rw [I_ushr (k := 2) (by omega) (by decide), show (858993459 : Int32) = I ((0x33333333 : Nat) : Int) from by decide, I_and, I_and, I_add, show ((y &&& 0x33333333 : Nat) : Int) + ((y / 2 ^ 2 &&& 0x33333333 : Nat) : Int) = ((pf2 0x33333333 y : Nat) : Int) from rfl, nmL_e]
  have a2 : pf2 0x33333333 y ≤ 0x66666666 := by
    have h1 : y &&& 0x33333333 ≤ 0x33333333 := Nat.and_le_right
    have h2 : y / 4 &&& 0x33333333 ≤ 0x33333333 := Nat.and_le_right
    unfold pf2
    omega
  generalize pf2 0x33333333 y = z at key a2 ⊢
  rw [I_ushr (k := 4) (by omega) (by decide), I_add, show (z : Int) + ((z / 2 ^ 4 : Nat) : Int) = ((z + z / 16 : Nat) : Int) from rfl, show (252645135 : Int32) = I ((0x0f0f0f0f : Nat) : Int) from by decide, I_and, show z + z / 16 &&& 0x0f0f0f0f = pf3 0x0f0f0f0f z from rfl, key, nmL_e, hc]
  generalize pop8 (x % 256) = n0 at s0 ⊢
  generalize pop8 (x / 256 % 256) = n1 at s1 ⊢
  generalize pop8 (x / 65536 % 256) = n2 at s2 ⊢
  generalize pop8 (x / 16777216) = n3 at s3 ⊢
  generalize hw : 256 * (256 * (256 * n3 + n2) + n1) + n0 = w
  rw [I_ushr (k := 8) (by omega) (by decide), I_add, show (w : Int) + ((w / 2 ^ 8 : Nat) : Int) = ((w + w / 256 : Nat) : Int) from rfl, nmL_e]
  have hw2 : w / 256 = n1 + 256 * n2 + 65536 * n3 := by omega
  generalize hv : w + w / 256 = v
  have hv1 : v = (n0 + n1) + 256 * (n1 + n2) + 65536 * (n2 + n3) + 16777216 * n3 := by omega
  have hv2 : v / 65536 = n2 + n3 + 256 * n3 := by clear hw2 hv; omega
  rw [I_ushr (k := 16) (by omega) (by decide), I_add, show (v : Int) + ((v / 2 ^ 16 : Nat) : Int) = ((v + v / 65536 : Nat) : Int) from rfl, nmL_e, show (63 : Int32) = I ((63 : Nat) : Int) from by decide, I_and, show v + v / 65536 &&& 63 = (v + v / 65536) % 64 from Nat.and_two_pow_sub_one_eq_mod _ 6, show (v + v / 65536) % 64 = n0 + (n1 + (n2 + n3)) by rw [hv2]; clear hv2 hv hw2 hw; omega]
theorem cnt_hi {x n m : Nat} (hx : x < 2 ^ n) (h : n ≤ m) : cnt x.testBit m = cnt x.testBit n := by
  obtain ⟨k, rfl⟩ : ∃ k, m = n + k := ⟨m - n, by omega⟩
  clear h
  induction k with
  | zero => rfl
  | succ k ih =>
    show cnt x.testBit (n + k) + (bif x.testBit (n + k) then 1 else 0) = cnt x.testBit n
    rw [ih, Nat.testBit_lt_two_pow (i := n + k) (Nat.lt_of_lt_of_le hx (Nat.pow_le_pow_right (by decide) (Nat.le_add_right n k)))]
    rfl
theorem bitCount_n {x n : Nat} (hx : x < 2 ^ n) (hn : n ≤ 30) : J_bitCount (I (x : Int)) = some (I ((cnt x.testBit n : Nat) : Int)) := by
  rw [bitCount_s (Nat.lt_of_lt_of_le hx (Nat.le_trans (two_pow_le hn) (by decide))), cnt_hi hx (by omega)]
/-! the lowest bit -/
theorem I_pred_and {x : Nat} (h : 1 ≤ x) : I (x : Int) &&& (I (x : Int) - 1) = I ((x &&& (x - 1) : Nat) : Int) := by
  rw [I1, I_sub, show (x : Int) - 1 = ((x - 1 : Nat) : Int) by omega, I_and]
end BITS

