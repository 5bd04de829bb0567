section WRITEX
variable {g : GWV} {t : ToksV} {w : Nat → Int32} {T : List Nat}
/-- the byte at a place of a text, 0 behind its end -/
def byq (T : List Nat) (q : Nat) : Nat := T.getD q 0
theorem byq_app (T S : List Nat) (q : Nat) : byq (T ++ S) q = if q < T.length then byq T q else byq S (q - T.length) := by
  unfold byq
  by_cases c : q < T.length
  · rw [if_pos c, List.getD_eq_getElem?_getD, List.getD_eq_getElem?_getD, List.getElem?_append_left c]
  · rw [if_neg c, List.getD_eq_getElem?_getD, List.getD_eq_getElem?_getD, List.getElem?_append_right (by omega)]
theorem byq_end {q : Nat} (h : T.length ≤ q) : byq T q = 0 := by
  unfold byq
  rw [List.getD_eq_getElem?_getD, List.getElem?_eq_none h]
  rfl
theorem byq_one (b q : Nat) : byq [b] q = if q = 0 then b else 0 := by
  cases q with
  | zero => rfl
  | succ q => rw [byq_end (by show 1 ≤ q + 1; omega), if_neg (by omega)]
/-- four bytes as one number -/
def pk4 (T : List Nat) (p : Nat) : Nat := byq T p * 16777216 + byq T (p + 1) * 65536 + byq T (p + 2) * 256 + byq T (p + 3)
/-- what stands in the buffer and in the row of words is this text -/
def TX (t : ToksV) (w : Nat → Int32) (T : List Nat) : Prop := (∀ q, byq T q < 128) ∧ T.length ≤ 599 ∧ Toks_filled t = I ((20 * (T.length / 20) : Nat) : Int) ∧ w 5 = I (T.length : Int) ∧ (∀ q, q < 20 * (T.length / 20) → Toks_bytes t q = I (byq T q : Int)) ∧ ∀ j, j < 5 → w j = I (pk4 T (20 * (T.length / 20) + 4 * j) : Int)
theorem sh_small : ∀ b : Nat, b < 128 → (I (b : Int) <<< (I 24 &&& 31) = I ((b * 16777216 : Nat) : Int) ∧ I (b : Int) <<< (I 16 &&& 31) = I ((b * 65536 : Nat) : Int)) ∧ (I (b : Int) <<< (I 8 &&& 31) = I ((b * 256 : Nat) : Int) ∧ I (b : Int) <<< (I 0 &&& 31) = I ((b : Nat) : Int)) := by decide +kernel
theorem or_add {a b s : Nat} (hb : b < 2 ^ s) : (a * 2 ^ s) ||| b = a * 2 ^ s + b := by
  rw [Nat.mul_comm]
  exact (Nat.two_pow_add_eq_or_of_lt hb a).symm
theorem shr_I {a k : Nat} (ha : a < 2147483648) (hk : k < 32) : (I (a : Int) >>> (I (k : Int) &&& 31)) = I ((a >>> k : Nat) : Int) := by
  apply Int32.toBitVec_inj.mp
  show BitVec.sshiftRight (I (a : Int)).toBitVec (((I (k : Int) &&& 31).toBitVec.smod 32).toNat) = _
  rw [shamt k hk, I_ofNat, I_ofNat]
  show BitVec.sshiftRight (BitVec.ofNat 32 a) k = BitVec.ofNat 32 (a >>> k)
  have hm : (BitVec.ofNat 32 a).msb = false := by
    rw [BitVec.msb_eq_decide, BitVec.toNat_ofNat]
    exact decide_eq_false (by omega)
  rw [BitVec.sshiftRight_eq_of_msb_false hm]
  apply BitVec.eq_of_toNat_eq
  rw [BitVec.toNat_ushiftRight, BitVec.toNat_ofNat, BitVec.toNat_ofNat, Nat.mod_eq_of_lt (by omega)]
  have : a >>> k ≤ a := by rw [Nat.shiftRight_eq_div_pow]; exact Nat.div_le_self _ _
  rw [Nat.mod_eq_of_lt (by omega)]
theorem bt_I {a k : Nat} (ha : a < 2147483648) (hk : k < 32) : bt (I (a : Int)) (I (k : Int)) = I ((a / 2 ^ k % 256 : Nat) : Int) := by
  unfold bt
  rw [shr_I ha hk, show (255 : Int32) = I ((255 : Nat) : Int) from rfl, I_and, Nat.shiftRight_eq_div_pow, show (255 : Nat) = 2 ^ 8 - 1 from rfl, Nat.and_two_pow_sub_one_eq_mod]
/-- the four bytes of a word -/
theorem pk_bytes {b0 b1 b2 b3 : Nat} (h0 : b0 < 128) (h1 : b1 < 128) (h2 : b2 < 128) (h3 : b3 < 128) : (b0 * 16777216 + b1 * 65536 + b2 * 256 + b3) / 2 ^ 24 % 256 = b0 ∧ (b0 * 16777216 + b1 * 65536 + b2 * 256 + b3) / 2 ^ 16 % 256 = b1 ∧ (b0 * 16777216 + b1 * 65536 + b2 * 256 + b3) / 2 ^ 8 % 256 = b2 ∧ (b0 * 16777216 + b1 * 65536 + b2 * 256 + b3) / 2 ^ 0 % 256 = b3 := by
  have e24 : (2 : Nat) ^ 24 = 16777216 := by decide
  have e16 : (2 : Nat) ^ 16 = 65536 := by decide
  have e8 : (2 : Nat) ^ 8 = 256 := by decide
  have e0 : (2 : Nat) ^ 0 = 1 := by decide
  rw [e24, e16, e8, e0]
  refine ⟨?_, ?_, ?_, ?_⟩ <;> omega
/-- a word's bytes go into the buffer -/
theorem addBytes_q {f : Nat} (hf : Toks_filled t = I (f : Int)) (h4 : f + 4 ≤ 600) {b0 b1 b2 b3 : Nat} (h0 : b0 < 128) (h1 : b1 < 128) (h2 : b2 < 128) (h3 : b3 < 128) : ∃ t', Toks_addBytes (I ((b0 * 16777216 + b1 * 65536 + b2 * 256 + b3 : Nat) : Int)) t = some t' ∧ Toks_filled t' = I ((f + 4 : Nat) : Int) ∧ (∀ q, q < f → Toks_bytes t' q = Toks_bytes t q) ∧ Toks_bytes t' f = I (b0 : Int) ∧ Toks_bytes t' (f + 1) = I (b1 : Int) ∧ Toks_bytes t' (f + 2) = I (b2 : Int) ∧ Toks_bytes t' (f + 3) = I (b3 : Int) := by
  obtain ⟨p0, p1, p2, p3⟩ := pk_bytes h0 h1 h2 h3
  have hlt : b0 * 16777216 + b1 * 65536 + b2 * 256 + b3 < 2147483648 := by omega
  generalize b0 * 16777216 + b1 * 65536 + b2 * 256 + b3 = x at p0 p1 p2 p3 hlt ⊢
  obtain ⟨n, hn⟩ : ∃ n, FU = n + 1 + 1 + 1 + 1 + 1 := ⟨FU - 5, by unfold FU; omega⟩
  obtain ⟨t1, e1, f1, g1⟩ := feed_c hf (by omega) (I (x : Int)) 24 (by decide) (n + 1 + 1 + 1 + 1)
  obtain ⟨t2, e2, f2, g2⟩ := feed_c f1 (by omega) (I (x : Int)) 16 (by decide) (n + 1 + 1 + 1)
  obtain ⟨t3, e3, f3, g3⟩ := feed_c f2 (by omega) (I (x : Int)) 8 (by decide) (n + 1 + 1)
  obtain ⟨t4, e4, f4, g4⟩ := feed_c f3 (by omega) (I (x : Int)) 0 (by decide) (n + 1)
  refine ⟨t4, ?_, f4, fun q hq => ?_, ?_, ?_, ?_, ?_⟩
  · unfold Toks_addBytes
    rw [hn, e1, show (24 : Int32) + -8 = 16 by decide, e2, show (16 : Int32) + -8 = 8 by decide, e3, show (8 : Int32) + -8 = 0 by decide, e4, Toks_addBytes_3, if_pos (by decide)]
  · rw [g4, upd_n (by omega), g3, upd_n (by omega), g2, upd_n (by omega), g1, upd_n (by omega)]
  · rw [g4, upd_n (by omega), g3, upd_n (by omega), g2, upd_n (by omega), g1, upd_i, show (24 : Int32) = I ((24 : Nat) : Int) from rfl, bt_I hlt (by omega), p0]
  · rw [g4, upd_n (by omega), g3, upd_n (by omega), g2, upd_i, show (16 : Int32) = I ((16 : Nat) : Int) from rfl, bt_I hlt (by omega), p1]
  · rw [g4, upd_n (by omega), g3, upd_i, show (8 : Int32) = I ((8 : Nat) : Int) from rfl, bt_I hlt (by omega), p2]
  · rw [g4, upd_i, show (0 : Int32) = I ((0 : Nat) : Int) from rfl, bt_I hlt (by omega), p3]
/-- the row of words is emptied -/
theorem add65 {x2 : Int32} : ∀ (q k m : Nat) (w : Nat → Int32), 5 = k + q → q < m → ∃ w', L_add_65 x2 g m (I (k : Int)) t w = some (t, w') ∧ (∀ j, k ≤ j → j < 5 → w' j = 0) ∧ (∀ j, j < k → w' j = w j) ∧ w' 5 = w 5 := by
  intro q
  induction q with
  | zero =>
    intro k m w hk hm
    obtain ⟨m, rfl⟩ : ∃ q, m = q + 1 := ⟨m - 1, by omega⟩
    refine ⟨w, ?_, fun j h1 h2 => absurd h1 (by omega), fun _ _ => rfl, rfl⟩
    rw [L_add_65, if_pos (show (5 : Int32) ≤ I (k : Int) from I_le_t (a := 5) (by omega) (by omega) (by omega))]
  | succ q ih =>
    intro k m w hk hm
    obtain ⟨m, rfl⟩ : ∃ q, m = q + 1 := ⟨m - 1, by omega⟩
    obtain ⟨w', e1, e2, e3, e4⟩ := ih (k + 1) m (upd w k 0) (by omega) (by omega)
    refine ⟨w', ?_, fun j h1 h2 => ?_, fun j h1 => ?_, ?_⟩
    · rw [L_add_65, if_neg (show ¬ (5 : Int32) ≤ I (k : Int) from I_le_f (a := 5) (by omega) (by omega) (by omega)), gd_I (by omega) (by omega) (by omega), nmL_e, nmL_e, I_clamp k (by omega), I_succ]
      exact e1
    · by_cases c : j = k
      · rw [c, e3 k (by omega), upd_i]
      · exact e2 j (by omega) h2
    · rw [e3 j (by omega), upd_n (by omega)]
    · rw [e4, upd_n (by omega)]
/-- a byte is said -/
theorem add_q (h : TX t w T) {b : Nat} (hb : b < 128) (hl : T.length + 1 ≤ 599) : ∃ t' w', L_add (I (b : Int)) g t w = some (t', w') ∧ TX t' w' (T ++ [b]) := by
  obtain ⟨h1, h2, h3, h4, h5, h6⟩ := h
  obtain ⟨a, j, i, hj, hi, hlen⟩ : ∃ a j i, j < 5 ∧ i < 4 ∧ T.length = 20 * a + 4 * j + i := ⟨T.length / 20, T.length % 20 / 4, T.length % 4, by omega, by omega, by omega⟩
  have ha : T.length / 20 = a := by omega
  rw [ha] at h3 h5 h6
  have hT' : ∀ q, byq (T ++ [b]) q = if q = T.length then b else byq T q := fun q => by
    rw [byq_app]
    by_cases c : q < T.length
    · rw [if_pos c, if_neg (by omega)]
    · rw [if_neg c, byq_one]
      by_cases d : q = T.length
      · rw [if_pos d, if_pos (by omega)]
      · rw [if_neg d, if_neg (by omega), byq_end (by omega)]
  have hT1 : ∀ q, byq (T ++ [b]) q < 128 := fun q => by
    rw [hT']
    split
    · exact hb
    · exact h1 q
  have hz : ∀ q, T.length ≤ q → byq T q = 0 := fun q hq => byq_end hq
  have hlen' : (T ++ [b]).length = T.length + 1 := by rw [List.length_append]; rfl
  -- the word with the new byte
  have hword : w j ||| (I (b : Int) <<< ((24 - (8 * I (i : Int))) &&& 31)) = I (pk4 (T ++ [b]) (20 * a + 4 * j) : Int) := by
    rw [h6 j hj]
    obtain ⟨⟨s24, s16⟩, s8, s0⟩ := sh_small b hb
    have y0 := h1 (20 * a + 4 * j)
    have y1 := h1 (20 * a + 4 * j + 1)
    have y2 := h1 (20 * a + 4 * j + 2)
    unfold pk4
    rw [hT', hT', hT', hT', show (24 : Int32) = I 24 from rfl, show (8 : Int32) = I 8 from rfl, I_mul, I_sub]
    obtain e | e | e | e : i = 0 ∨ i = 1 ∨ i = 2 ∨ i = 3 := by omega
    · subst e
      rw [show (24 : Int) - 8 * ((0 : Nat) : Int) = 24 by decide, s24, I_or, hz (20 * a + 4 * j) (by omega), hz (20 * a + 4 * j + 1) (by omega), hz (20 * a + 4 * j + 2) (by omega), hz (20 * a + 4 * j + 3) (by omega), if_pos (by omega), if_neg (by omega), if_neg (by omega), if_neg (by omega)]
      congr 2
      rw [show 0 * 16777216 + 0 * 65536 + 0 * 256 + 0 = 0 by decide, Nat.zero_or]
      omega
    · subst e
      rw [show (24 : Int) - 8 * ((1 : Nat) : Int) = 16 by decide, s16, I_or, hz (20 * a + 4 * j + 1) (by omega), hz (20 * a + 4 * j + 2) (by omega), hz (20 * a + 4 * j + 3) (by omega), if_neg (by omega), if_pos (by omega), if_neg (by omega), if_neg (by omega)]
      congr 2
      have := or_add (a := byq T (20 * a + 4 * j)) (b := b * 65536) (s := 24) (by omega)
      rw [show (2 : Nat) ^ 24 = 16777216 by decide] at this
      rw [show byq T (20 * a + 4 * j) * 16777216 + 0 * 65536 + 0 * 256 + 0 = byq T (20 * a + 4 * j) * 16777216 by omega, this]
      omega
    · subst e
      rw [show (24 : Int) - 8 * ((2 : Nat) : Int) = 8 by decide, s8, I_or, hz (20 * a + 4 * j + 2) (by omega), hz (20 * a + 4 * j + 3) (by omega), if_neg (by omega), if_neg (by omega), if_pos (by omega), if_neg (by omega)]
      congr 2
      have := or_add (a := byq T (20 * a + 4 * j) * 256 + byq T (20 * a + 4 * j + 1)) (b := b * 256) (s := 16) (by omega)
      rw [show (2 : Nat) ^ 16 = 65536 by decide] at this
      rw [show byq T (20 * a + 4 * j) * 16777216 + byq T (20 * a + 4 * j + 1) * 65536 + 0 * 256 + 0 = (byq T (20 * a + 4 * j) * 256 + byq T (20 * a + 4 * j + 1)) * 65536 by omega, this]
      omega
    · subst e
      rw [show (24 : Int) - 8 * ((3 : Nat) : Int) = 0 by decide, s0, I_or, hz (20 * a + 4 * j + 3) (by omega), if_neg (by omega), if_neg (by omega), if_neg (by omega), if_pos (by omega)]
      congr 2
      have := or_add (a := byq T (20 * a + 4 * j) * 65536 + byq T (20 * a + 4 * j + 1) * 256 + byq T (20 * a + 4 * j + 2)) (b := b) (s := 8) (by omega)
      rw [show (2 : Nat) ^ 8 = 256 by decide] at this
      rw [show byq T (20 * a + 4 * j) * 16777216 + byq T (20 * a + 4 * j + 1) * 65536 + byq T (20 * a + 4 * j + 2) * 256 + 0 = (byq T (20 * a + 4 * j) * 65536 + byq T (20 * a + 4 * j + 1) * 256 + byq T (20 * a + 4 * j + 2)) * 256 by omega, this]
      omega
  have hother : ∀ j', j' < 5 → j' ≠ j → pk4 (T ++ [b]) (20 * a + 4 * j') = pk4 T (20 * a + 4 * j') := fun j' h1 h2 => by
    unfold pk4
    rw [hT', hT', hT', hT', if_neg (by omega), if_neg (by omega), if_neg (by omega), if_neg (by omega)]
  have hm20 : ((20 * a + 4 * j + i : Nat) : Int) % 20 = ((4 * j + i : Nat) : Int) := by omega
  have hm4 : ((4 * j + i : Nat) : Int) / 4 = (j : Int) := by omega
  have hm44 : ((20 * a + 4 * j + i : Nat) : Int) % 4 = (i : Int) := by omega
  have hW : ∀ j', j' < 5 → upd w j (w j ||| (I (b : Int) <<< ((24 - (8 * I (i : Int))) &&& 31))) j' = I (pk4 (T ++ [b]) (20 * a + 4 * j') : Int) := fun j' hj' => by
    by_cases c : j' = j
    · rw [c, upd_i, hword]
    · rw [upd_n c, hother j' hj' c]
      exact h6 j' hj'
  have hU : L_add (I (b : Int)) g t w = (if I ((20 * a + 4 * j + i + 1 : Nat) : Int) - I ((20 * a + 4 * j + i + 1 : Nat) : Int) / 20 * 20 = 0 then Option.bind (GW_feed (upd (upd w j (w j ||| (I (b : Int) <<< ((24 - (8 * I (i : Int))) &&& 31)))) 5 (I ((20 * a + 4 * j + i + 1 : Nat) : Int)) 0) (upd (upd w j (w j ||| (I (b : Int) <<< ((24 - (8 * I (i : Int))) &&& 31)))) 5 (I ((20 * a + 4 * j + i + 1 : Nat) : Int)) 1) (upd (upd w j (w j ||| (I (b : Int) <<< ((24 - (8 * I (i : Int))) &&& 31)))) 5 (I ((20 * a + 4 * j + i + 1 : Nat) : Int)) 2) (upd (upd w j (w j ||| (I (b : Int) <<< ((24 - (8 * I (i : Int))) &&& 31)))) 5 (I ((20 * a + 4 * j + i + 1 : Nat) : Int)) 3) (upd (upd w j (w j ||| (I (b : Int) <<< ((24 - (8 * I (i : Int))) &&& 31)))) 5 (I ((20 * a + 4 * j + i + 1 : Nat) : Int)) 4) g t) fun p59 => L_add_65 (I (b : Int)) g FU 0 p59.2 (upd (upd w j (w j ||| (I (b : Int) <<< ((24 - (8 * I (i : Int))) &&& 31)))) 5 (I ((20 * a + 4 * j + i + 1 : Nat) : Int))) else some (t, upd (upd w j (w j ||| (I (b : Int) <<< ((24 - (8 * I (i : Int))) &&& 31)))) 5 (I ((20 * a + 4 * j + i + 1 : Nat) : Int)))) := by
    unfold L_add
    rw [gd_t (by decide), gd_t (by decide), gd_t (by decide), cl5, h4, hlen, show (20 : Int32) = I 20 from rfl, I_rem (by omega) (by omega) (by omega) (by omega), hm20, show (4 : Int32) = I 4 from rfl, I_div (by omega) (by omega) (by omega) (by omega), hm4, gd_I (by omega) (by omega) (by omega), nmL_e, nmL_e, I_clamp j (by omega), I_rem (by omega) (by omega) (by omega) (by omega), hm44, upd_n (show 5 ≠ j by omega), h4, hlen, I_succ, upd_i]
    rw [gd_t (by decide), gd_t (by decide), gd_t (by decide), gd_t (by decide), gd_t (by decide), cl0, cl1, cl2, cl3, show Int32.toNatClampNeg (I 4) = 4 by decide]
  rw [hU, show (20 : Int32) = I 20 from rfl, I_rem (by omega) (by omega) (by omega) (by omega)]
  by_cases c : 4 * j + i = 19
  · -- twenty bytes are full
    have hj4 : j = 4 := by omega
    have hi3 : i = 3 := by omega
    rw [if_pos (show I (((20 * a + 4 * j + i + 1 : Nat) : Int) % 20) = 0 by rw [show ((20 * a + 4 * j + i + 1 : Nat) : Int) % 20 = 0 by omega]; rfl)]
    rw [upd_n (show 0 ≠ 5 by decide), upd_n (show 1 ≠ 5 by decide), upd_n (show 2 ≠ 5 by decide), upd_n (show 3 ≠ 5 by decide), upd_n (show 4 ≠ 5 by decide), hW 0 (by omega), hW 1 (by omega), hW 2 (by omega), hW 3 (by omega), hW 4 (by omega)]
    generalize T ++ [b] = T' at *
    obtain ⟨t1, e1, f1, p1, q10, q11, q12, q13⟩ := addBytes_q (t := t) (f := 20 * a) h3 (by omega) (hT1 (20 * a + 4 * 0)) (hT1 (20 * a + 4 * 0 + 1)) (hT1 (20 * a + 4 * 0 + 2)) (hT1 (20 * a + 4 * 0 + 3))
    obtain ⟨t2, e2, f2, p2, q20, q21, q22, q23⟩ := addBytes_q (t := t1) f1 (by omega) (hT1 (20 * a + 4 * 1)) (hT1 (20 * a + 4 * 1 + 1)) (hT1 (20 * a + 4 * 1 + 2)) (hT1 (20 * a + 4 * 1 + 3))
    obtain ⟨t3, e3, f3, p3, q30, q31, q32, q33⟩ := addBytes_q (t := t2) f2 (by omega) (hT1 (20 * a + 4 * 2)) (hT1 (20 * a + 4 * 2 + 1)) (hT1 (20 * a + 4 * 2 + 2)) (hT1 (20 * a + 4 * 2 + 3))
    obtain ⟨t4, e4, f4, p4, q40, q41, q42, q43⟩ := addBytes_q (t := t3) f3 (by omega) (hT1 (20 * a + 4 * 3)) (hT1 (20 * a + 4 * 3 + 1)) (hT1 (20 * a + 4 * 3 + 2)) (hT1 (20 * a + 4 * 3 + 3))
    obtain ⟨t5, e5, f5, p5, q50, q51, q52, q53⟩ := addBytes_q (t := t4) f4 (by omega) (hT1 (20 * a + 4 * 4)) (hT1 (20 * a + 4 * 4 + 1)) (hT1 (20 * a + 4 * 4 + 2)) (hT1 (20 * a + 4 * 4 + 3))
    have hfeed : GW_feed (I (pk4 T' (20 * a + 4 * 0) : Int)) (I (pk4 T' (20 * a + 4 * 1) : Int)) (I (pk4 T' (20 * a + 4 * 2) : Int)) (I (pk4 T' (20 * a + 4 * 3) : Int)) (I (pk4 T' (20 * a + 4 * 4) : Int)) g t = some (Toks_filled t5, t5) := by
      unfold GW_feed
      unfold pk4
      rw [h3, if_pos (show I ((20 * a : Nat) : Int) ≤ 580 from I_le_t (b := 580) (by omega) (by omega) (by omega)), e1, bind_s, e2, bind_s, e3, bind_s, e4, bind_s, e5, bind_s]
    obtain ⟨w', z1, z2, z3, z4⟩ := add65 (g := g) (t := t5) (x2 := I (b : Int)) 5 0 FU (upd (upd w j (w j ||| (I (b : Int) <<< ((24 - (8 * I (i : Int))) &&& 31)))) 5 (I ((20 * a + 4 * j + i + 1 : Nat) : Int))) (by omega) (by unfold FU; omega)
    refine ⟨t5, w', ?_, hT1, by omega, ?_, ?_, fun q hq => ?_, fun j' hj' => ?_⟩
    · rw [hfeed, bind_s]
      exact z1
    · rw [f5]
      congr 2
      omega
    · rw [z4, upd_i, hlen']
      congr 2
      omega
    · have hq20 : q < 20 * a + 20 := by omega
      by_cases d : q < 20 * a
      · rw [p5 q (by omega), p4 q (by omega), p3 q (by omega), p2 q (by omega), p1 q (by omega), h5 q d, hT', if_neg (by omega)]
      · obtain ⟨r, rfl⟩ : ∃ r, q = 20 * a + r := ⟨q - 20 * a, by omega⟩
        have hr : r < 20 := by omega
        have k1 : ∀ x, x < 20 * a + 4 → Toks_bytes t5 x = Toks_bytes t1 x := fun x hx => by rw [p5 x (by omega), p4 x (by omega), p3 x (by omega), p2 x (by omega)]
        have k2 : ∀ x, x < 20 * a + 4 + 4 → Toks_bytes t5 x = Toks_bytes t2 x := fun x hx => by rw [p5 x (by omega), p4 x (by omega), p3 x (by omega)]
        have k3 : ∀ x, x < 20 * a + 4 + 4 + 4 → Toks_bytes t5 x = Toks_bytes t3 x := fun x hx => by rw [p5 x (by omega), p4 x (by omega)]
        have k4 : ∀ x, x < 20 * a + 4 + 4 + 4 + 4 → Toks_bytes t5 x = Toks_bytes t4 x := fun x hx => p5 x (by omega)
        obtain e | e | e | e | e : r < 4 ∨ (4 ≤ r ∧ r < 8) ∨ (8 ≤ r ∧ r < 12) ∨ (12 ≤ r ∧ r < 16) ∨ (16 ≤ r ∧ r < 20) := by omega
        · rw [k1 _ (by omega)]
          obtain e | e | e | e : r = 0 ∨ r = 1 ∨ r = 2 ∨ r = 3 := by omega
          · subst e; exact q10
          · subst e; exact q11
          · subst e; exact q12
          · subst e; exact q13
        · rw [k2 _ (by omega)]
          obtain e | e | e | e : r = 4 ∨ r = 5 ∨ r = 6 ∨ r = 7 := by omega
          · subst e; exact q20
          · subst e; exact q21
          · subst e; exact q22
          · subst e; exact q23
        · rw [k3 _ (by omega)]
          obtain e | e | e | e : r = 8 ∨ r = 9 ∨ r = 10 ∨ r = 11 := by omega
          · subst e; exact q30
          · subst e; exact q31
          · subst e; exact q32
          · subst e; exact q33
        · rw [k4 _ (by omega)]
          obtain e | e | e | e : r = 12 ∨ r = 13 ∨ r = 14 ∨ r = 15 := by omega
          · subst e; exact q40
          · subst e; exact q41
          · subst e; exact q42
          · subst e; exact q43
        · obtain e | e | e | e : r = 16 ∨ r = 17 ∨ r = 18 ∨ r = 19 := by omega
          · subst e; exact q50
          · subst e; exact q51
          · subst e; exact q52
          · subst e; exact q53
    · rw [z2 j' (by omega) hj']
      have : pk4 T' (20 * (T'.length / 20) + 4 * j') = 0 := by
        unfold pk4
        rw [byq_end (by omega), byq_end (by omega), byq_end (by omega), byq_end (by omega)]
      rw [this]; rfl
  · have hsm : 4 * j + i < 19 := by omega
    have hne : (((20 * a + 4 * j + i + 1 : Nat) : Int) % 20) = ((4 * j + i + 1 : Nat) : Int) := by omega
    rw [hne, if_neg (show ¬ I ((4 * j + i + 1 : Nat) : Int) = 0 from I_ne (b := 0) (by omega) (by omega) (by omega) (by omega) (by omega))]
    have hdiv : (T ++ [b]).length / 20 = a := by omega
    refine ⟨t, _, rfl, hT1, by omega, by rw [hdiv]; exact h3, by rw [upd_i, hlen', hlen], fun q hq => ?_, fun j' hj' => ?_⟩
    · rw [hdiv] at hq
      rw [h5 q hq, hT', if_neg (by omega)]
    · rw [hdiv, upd_n (by omega)]
      exact hW j' hj'
/-- a word is said -/
theorem word_loop {i : Nat} {S : List Nat} (hok : stOK i = true) (hS : stL i = S.map fun b : Nat => I (b : Int)) (hb : ∀ b ∈ S, b < 128) : ∀ (R : List Nat) (P : List Nat) (m : Nat) (t : ToksV) (w : Nat → Int32), S = P ++ R → R.length < m → TX t w (T ++ P) → T.length + S.length ≤ 599 → ∃ t' w', L_word_2 i g m (I (P.length : Int)) t w = some (t', w') ∧ TX t' w' (T ++ S) := by
  have hlen : (stL i).length = S.length := by rw [hS, List.length_map]
  intro R
  induction R with
  | nil =>
    intro P m t w hP hm hT hl
    obtain ⟨m, rfl⟩ : ∃ q, m = q + 1 := ⟨m - 1, by omega⟩
    rw [List.append_nil] at hP
    subst hP
    refine ⟨t, w, ?_, hT⟩
    rw [L_word_2, gd_t hok, stLen_I, hlen, if_pos (I_le_t (by omega) (by omega) (by omega))]
  | cons b R ih =>
    intro P m t w hP hm hT hl
    obtain ⟨m, rfl⟩ : ∃ q, m = q + 1 := ⟨m - 1, by omega⟩
    have hSl : S.length = P.length + (R.length + 1) := by rw [hP, List.length_append]; rfl
    have hbb : b < 128 := hb b (by rw [hP]; exact List.mem_append_right _ List.mem_cons_self)
    have hch : stCh i (I (P.length : Int)) = I (b : Int) := by
      rw [stCh_I i (by omega), hS, List.getD_eq_getElem?_getD, List.getElem?_map, hP, List.getElem?_append_right (Nat.le_refl _), Nat.sub_self]
      rfl
    obtain ⟨t1, w1, e1, e2⟩ := add_q (g := g) hT hbb (by rw [List.length_append]; omega)
    rw [List.append_assoc] at e2
    obtain ⟨t2, w2, e3, e4⟩ := ih (P ++ [b]) m t1 w1 (by rw [hP, List.append_assoc]; rfl) (by have : (b :: R).length = R.length + 1 := rfl; omega) e2 hl
    refine ⟨t2, w2, ?_, e4⟩
    rw [List.length_append] at e3
    rw [L_word_2, gd_t hok, stLen_I, hlen, if_neg (I_le_f (by omega) (by omega) (by omega)), gd_I (by omega) (by omega) (by omega), hch, e1, bind_s, nmL_e, I_succ]
    exact e3
theorem word_q (h : TX t w T) {i : Nat} {S : List Nat} (hok : stOK i = true) (hS : stL i = S.map fun b : Nat => I (b : Int)) (hb : ∀ b ∈ S, b < 128) (hl : T.length + S.length ≤ 599) : ∃ t' w', L_word i g t w = some (t', w') ∧ TX t' w' (T ++ S) := by
  unfold L_word
  exact word_loop (g := g) hok hS hb S [] FU t w rfl (by unfold FU; omega) (by rw [List.append_nil]; exact h) hl
/-- a number's digits -/
def dgt (x : Nat) : List Nat := if x < 10 then [48 + x] else [48 + x / 10, 48 + x % 10]
theorem dgt_len (x : Nat) : (dgt x).length ≤ 2 ∧ 1 ≤ (dgt x).length := by
  unfold dgt
  split
  · exact ⟨(show 1 ≤ 2 by omega), (show 1 ≤ 1 by omega)⟩
  · exact ⟨(show 2 ≤ 2 by omega), (show 1 ≤ 2 by omega)⟩
theorem number_q (h : TX t w T) {x : Nat} (hx : x < 100) (hl : T.length + 2 ≤ 599) : ∃ t' w', L_number (I (x : Int)) g t w = some (t', w') ∧ TX t' w' (T ++ dgt x) := by
  have e1018 : ∀ (n : Nat) (t : ToksV) (w : Nat → Int32), L_number_18 (I (x : Int)) g (n + 1) 0 t w = some (t, w) := fun n t w => by rw [L_number_18, if_pos (by decide)]
  have e18 : ∀ (n : Nat) (t : ToksV) (w : Nat → Int32), L_number_18 (I (x : Int)) g (n + 1) (I 1) t w = Option.bind (L_add (I ((48 + x % 10 : Nat) : Int)) g t w) fun p33 => L_number_18 (I (x : Int)) g n 0 p33.1 p33.2 := fun n t w => by
    rw [L_number_18, if_neg (by decide), gd_t (by decide), gd_t (by decide), I_div (by omega) (by omega) (by omega) (by omega), show (x : Int) / 1 = (x : Int) by omega, show (10 : Int32) = I 10 from rfl, I_rem (by omega) (by omega) (by omega) (by omega), show (48 : Int32) = I 48 from rfl, I_add, show (48 : Int) + (x : Int) % 10 = ((48 + x % 10 : Nat) : Int) by omega, show I 1 / I 10 = 0 by decide]
    rfl
  unfold L_number
  obtain ⟨n, hn⟩ : ∃ n, FU = n + 1 + 1 + 1 := ⟨FU - 3, by unfold FU; omega⟩
  have e2 : ∀ (m : Nat) (c : Nat), 1 ≤ c → c ≤ 10 → L_number_2 (I (x : Int)) g (m + 1) (I (c : Int)) t w = if x / 10 < c then L_number_18 (I (x : Int)) g FU (I (c : Int)) t w else L_number_2 (I (x : Int)) g m (I ((c * 10 : Nat) : Int)) t w := fun m c c1 c2 => by
    rw [L_number_2, gd_t (by decide), show (10 : Int32) = I 10 from rfl, I_div (by omega) (by omega) (by omega) (by omega), show (x : Int) / 10 = ((x / 10 : Nat) : Int) by omega]
    by_cases d : x / 10 < c
    · rw [if_pos (I_lt_t (by omega) (by omega) (by omega)), if_pos d]
    · rw [if_neg (I_lt_f (by omega) (by omega) (by omega)), if_neg d, nmL_e, I_mul]
      congr 2
  rw [show (1 : Int32) = I ((1 : Nat) : Int) from rfl]
  by_cases c : x < 10
  · obtain ⟨t1, w1, f1, f2⟩ := add_q (g := g) h (b := 48 + x % 10) (by omega) (by omega)
    refine ⟨t1, w1, ?_, ?_⟩
    · rw [show L_number_2 (I (x : Int)) g FU (I ((1 : Nat) : Int)) t w = L_number_18 (I (x : Int)) g FU (I ((1 : Nat) : Int)) t w by rw [hn, e2 _ 1 (by omega) (by omega), if_pos (by omega), hn], hn]
      refine (e18 _ t w).trans ?_
      rw [f1, bind_s]
      exact e1018 _ _ _
    · unfold dgt
      rw [if_pos c]
      rw [Nat.mod_eq_of_lt c] at f2
      exact f2
  · obtain ⟨t1, w1, f1, f2⟩ := add_q (g := g) h (b := 48 + x / 10) (by omega) (by omega)
    obtain ⟨t2, w2, f3, f4⟩ := add_q (g := g) f2 (b := 48 + x % 10) (by omega) (by rw [List.length_append]; show T.length + 1 + 1 ≤ 599; omega)
    refine ⟨t2, w2, ?_, ?_⟩
    · have e3 : L_number_2 (I (x : Int)) g FU (I ((1 : Nat) : Int)) t w = L_number_18 (I (x : Int)) g FU (I ((10 : Nat) : Int)) t w := by
        rw [show L_number_2 (I (x : Int)) g FU (I ((1 : Nat) : Int)) t w = L_number_2 (I (x : Int)) g (n + 1 + 1 + 1) (I ((1 : Nat) : Int)) t w by rw [← hn], e2 _ 1 (by omega) (by omega), if_neg (by omega), show 1 * 10 = 10 by decide, e2 _ 10 (by omega) (by omega), if_pos (by omega)]
      rw [e3, hn, L_number_18, if_neg (by decide), gd_t (by decide), gd_t (by decide), I_div (by omega) (by omega) (by omega) (by omega), show (x : Int) / ((10 : Nat) : Int) = ((x / 10 : Nat) : Int) by omega, show (10 : Int32) = I 10 from rfl, I_rem (by omega) (by omega) (by omega) (by omega), show (48 : Int32) = I 48 from rfl, I_add, show (48 : Int) + ((x / 10 : Nat) : Int) % 10 = ((48 + x / 10 : Nat) : Int) by omega, f1, bind_s, nmL_e, show I ((10 : Nat) : Int) / I 10 = I 1 by decide]
      dsimp only
      refine (e18 _ t1 w1).trans ?_
      rw [f3, bind_s]
      exact e1018 _ _ _
    · unfold dgt
      rw [if_neg c]
      rw [List.append_assoc] at f4
      exact f4
theorem with_q (h : TX t w T) {i : Nat} {S : List Nat} (hok : stOK i = true) (hS : stL i = S.map fun b : Nat => I (b : Int)) (hb : ∀ b ∈ S, b < 128) {x : Nat} (hx : x < 100) (hl : T.length + S.length + 2 ≤ 599) : ∃ t' w', L_with i (I (x : Int)) g t w = some (t', w') ∧ TX t' w' (T ++ (S ++ dgt x)) := by
  obtain ⟨t1, w1, e1, e2⟩ := word_q (g := g) h hok hS hb (by omega)
  obtain ⟨t2, w2, e3, e4⟩ := number_q (g := g) e2 hx (by rw [List.length_append]; omega)
  refine ⟨t2, w2, ?_, by rw [← List.append_assoc]; exact e4⟩
  unfold L_with
  rw [e1, bind_s]
  dsimp only
  rw [e3, bind_s]
/-- blanks, until all words are fed -/
theorem end_loop {x2 : Int32} : ∀ (q m : Nat) (T' : List Nat) (t : ToksV) (w : Nat → Int32), (q + T'.length) % 20 = 0 → q < 20 → q < m → TX t w T' → T'.length + q ≤ 599 → ∃ t' w', L_end_4 g x2 m t w = some (x2, t', upd w' 5 0) ∧ TX t' w' (T' ++ List.replicate q 32) := by
  intro q
  induction q with
  | zero =>
    intro m T' t w hq h20 hm hT hl
    obtain ⟨m, rfl⟩ : ∃ q, m = q + 1 := ⟨m - 1, by omega⟩
    refine ⟨t, w, ?_, by rw [List.replicate_zero, List.append_nil]; exact hT⟩
    rw [L_end_4, gd_t (by decide), gd_t (by decide), cl5, hT.2.2.2.1, show (20 : Int32) = I 20 from rfl, I_rem (by omega) (by omega) (by omega) (by omega), show (T'.length : Int) % 20 = 0 by omega, if_pos (show I 0 = 0 from rfl), nmL_e]
  | succ q ih =>
    intro m T' t w hq h20 hm hT hl
    obtain ⟨m, rfl⟩ : ∃ q, m = q + 1 := ⟨m - 1, by omega⟩
    obtain ⟨t1, w1, e1, e2⟩ := add_q (g := g) hT (b := 32) (by omega) (by omega)
    have hl1 : (T' ++ [32]).length = T'.length + 1 := by rw [List.length_append]; rfl
    obtain ⟨t2, w2, e3, e4⟩ := ih m (T' ++ [32]) t1 w1 (by omega) (by omega) (by omega) e2 (by omega)
    refine ⟨t2, w2, ?_, ?_⟩
    · rw [L_end_4, gd_t (by decide), gd_t (by decide), cl5, hT.2.2.2.1, show (20 : Int32) = I 20 from rfl, I_rem (by omega) (by omega) (by omega) (by omega), if_neg (show ¬ I ((T'.length : Int) % 20) = 0 from I_ne (b := 0) (by omega) (by omega) (by omega) (by omega) (by omega)), show (32 : Int32) = I ((32 : Nat) : Int) from rfl, e1, bind_s]
      exact e3
    · rw [List.append_assoc] at e4
      exact e4
/-- what was said stands in the buffer -/
theorem end_q (h : TX t w T) (hl : T.length ≤ 560) : ∃ t' w' f, L_end g t w = some (I (T.length : Int), t', w') ∧ Toks_filled t' = I (f : Int) ∧ T.length ≤ f ∧ f ≤ 600 ∧ (∀ q, q < T.length → Toks_bytes t' q = I (byq T q : Int)) ∧ ∀ j, j < 6 → w' j = 0 := by
  obtain ⟨q, hq, hq2⟩ : ∃ q, (q + T.length) % 20 = 0 ∧ q < 20 := ⟨(20 - T.length % 20) % 20, by omega, by omega⟩
  obtain ⟨t1, w1, e1, e2⟩ := end_loop (g := g) (x2 := I (T.length : Int)) q FU T t w hq hq2 (by unfold FU; omega) h (by omega)
  obtain ⟨a1, a2, a3, a4, a5, a6⟩ := e2
  have hlen : (T ++ List.replicate q 32).length = T.length + q := by rw [List.length_append, List.length_replicate]
  rw [hlen] at a3 a5 a6
  refine ⟨t1, upd w1 5 0, _, ?_, a3, by omega, by omega, fun p hp => ?_, fun j hj => ?_⟩
  · unfold L_end
    rw [gd_t (by decide), nmL_e, cl5, h.2.2.2.1]
    exact e1
  · rw [a5 p (by omega), byq_app, if_pos hp]
  · by_cases c : j = 5
    · rw [c, upd_i]
    · rw [upd_n c, a6 j (by omega)]
      have : pk4 (T ++ List.replicate q 32) (20 * ((T.length + q) / 20) + 4 * j) = 0 := by
        unfold pk4
        rw [byq_end (by omega), byq_end (by omega), byq_end (by omega), byq_end (by omega)]
      rw [this]; rfl
/-- nothing is said yet -/
theorem TX.nil (h1 : Toks_filled t = 0) (h2 : ∀ j, j < 6 → w j = 0) : TX t w [] := by
  refine ⟨fun q => by rw [byq_end (Nat.zero_le _)]; omega, by decide, h1, h2 5 (by omega), fun q hq => absurd hq (by show ¬ q < 0; omega), fun j hj => ?_⟩
  rw [h2 j (by omega)]
  have : pk4 [] (20 * (([] : List Nat).length / 20) + 4 * j) = 0 := by
    unfold pk4
    rw [byq_end (Nat.zero_le _), byq_end (Nat.zero_le _), byq_end (Nat.zero_le _), byq_end (Nat.zero_le _)]
  rw [this]; rfl
end WRITEX
