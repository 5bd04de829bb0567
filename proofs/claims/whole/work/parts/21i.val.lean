section LNG
def L (z : Int) : Int64 := Int64.ofInt z
theorem L_add (a b : Int) : L a + L b = L (a + b) := (Int64.ofInt_add a b).symm
theorem L_sub (a b : Int) : L a - L b = L (a - b) := by unfold L; rw [Int64.ofInt_sub]
theorem L_mul (a b : Int) : L a * L b = L (a * b) := by unfold L; rw [Int64.ofInt_mul]
theorem L_int {a : Int} (h1 : -9000000000000000000 ≤ a) (h2 : a ≤ 9000000000000000000) : (L a).toInt = a := Int64.toInt_ofInt_of_le (by omega) (by omega)
theorem L_of {a : Int} (h1 : -2147483648 ≤ a) (h2 : a ≤ 2147483647) : Int32.toInt64 (I a) = L a := by
  apply Int64.toInt_inj.mp
  rw [Int32.toInt_toInt64, I_int h1 h2, L_int (by omega) (by omega)]
theorem I_of (a : Int) : Int64.toInt32 (L a) = I a := Int64.toInt32_ofInt
theorem L_lt {a b : Int} (ha1 : -9000000000000000000 ≤ a) (ha2 : a ≤ 9000000000000000000) (hb1 : -9000000000000000000 ≤ b) (hb2 : b ≤ 9000000000000000000) : (L a < L b) = (a < b) := by
  rw [Int64.lt_iff_toInt_lt, L_int ha1 ha2, L_int hb1 hb2]
theorem L_eq {a b : Int} (ha1 : -9000000000000000000 ≤ a) (ha2 : a ≤ 9000000000000000000) (hb1 : -9000000000000000000 ≤ b) (hb2 : b ≤ 9000000000000000000) : (L a = L b) = (a = b) := by
  apply propext
  constructor
  · intro h
    have h2 := congrArg Int64.toInt h
    rw [L_int ha1 ha2, L_int hb1 hb2] at h2
    exact h2
  · intro h; rw [h]
theorem lmin_L {a b : Int} (ha1 : -9000000000000000000 ≤ a) (ha2 : a ≤ 9000000000000000000) (hb1 : -9000000000000000000 ≤ b) (hb2 : b ≤ 9000000000000000000) : lmin (L a) (L b) = L (min a b) := by
  unfold lmin
  by_cases c : b < a
  · rw [if_pos (by rw [L_lt hb1 hb2 ha1 ha2]; exact c), show min a b = b by omega]
  · rw [if_neg (by rw [L_lt hb1 hb2 ha1 ha2]; exact c), show min a b = a by omega]
theorem lcmp_L {a b : Int} (ha1 : -9000000000000000000 ≤ a) (ha2 : a ≤ 9000000000000000000) (hb1 : -9000000000000000000 ≤ b) (hb2 : b ≤ 9000000000000000000) : lg_cmp (L a) (L b) = if b < a then 1 else if a = b then 0 else -1 := by
  unfold lg_cmp
  have e1 : (L a > L b) = (b < a) := L_lt hb1 hb2 ha1 ha2
  have e2 : (L a = L b) = (a = b) := L_eq ha1 ha2 hb1 hb2
  by_cases c : b < a
  · rw [if_pos c, if_pos (by rw [e1]; exact c)]
  · rw [if_neg c, if_neg (by rw [e1]; exact c)]
    by_cases d : a = b
    · rw [if_pos d, if_pos (by rw [e2]; exact d)]
    · rw [if_neg d, if_neg (by rw [e2]; exact d)]
end LNG
section VAL
variable {t : ToksV} {M : ModelV} {l f e k : Nat}
/-- the model's number of n digits behind f -/
def nC (b : Nat → Nat) (f : Nat) : Nat → Nat
  | 0 => 0
  | k + 1 => min 2000000000 (nC b f k * 10 + (b (f + k) - 48))
theorem nC_le {b : Nat → Nat} {f : Nat} (k : Nat) : nC b f k ≤ 2000000000 := by
  cases k with
  | zero => exact Nat.zero_le _
  | succ k => unfold nC; omega
theorem nAC {b : Nat → Nat} {f : Nat} (k : Nat) (h : ∀ i, i < k → isD (b (f + i)) = true) : nA b f k = nC b f k ∨ (9999 < nA b f k ∧ 9999 < nC b f k) := by
  induction k with
  | zero => exact Or.inl rfl
  | succ k ih =>
    have h1 := ih fun i hi => h i (by omega)
    have h2 : 48 ≤ b (f + k) ∧ b (f + k) ≤ 57 := of_decide_eq_true (h k (by omega))
    have h3 := nA_le k fun i hi => h i (by omega)
    unfold nA nC
    split <;> omega
theorem value_l (h : TK t M l f e 2) : ∀ (q j n : Nat), e = j + q → f ≤ j → q < n → Mod_value_7 M n (I (nC (byt t) f (j - f) : Int)) (I (j : Int)) = some (I (nC (byt t) f (e - f) : Int)) := by
  obtain ⟨hb, h1, h2, h3, h4, h5, h6, h7, h8, h9⟩ := h
  have hl := hb.2.2.1
  obtain ⟨hd, -⟩ := h9 rfl
  intro q
  induction q with
  | zero =>
    intro j n hj hf hn
    obtain ⟨n, rfl⟩ : ∃ q, n = q + 1 := ⟨n - 1, by omega⟩
    rw [Mod_value_7, h4, if_pos (I_le_t (by omega) (by omega) (by omega)), show j = e by omega]
  | succ q ih =>
    intro j n hj hf hn
    obtain ⟨n, rfl⟩ : ∃ q, n = q + 1 := ⟨n - 1, by omega⟩
    have hby := hb.2.2.2 j (by omega)
    have hd1 : 48 ≤ byt t j ∧ byt t j ≤ 57 := of_decide_eq_true (hd j hf (by omega))
    have hc := nC_le (b := byt t) (f := f) (j - f)
    rw [Mod_value_7, h4, if_neg (I_le_f (by omega) (by omega) (by omega)), h7, if_pos (show I ((2 : Nat) : Int) = (2 : Int32) from rfl), gd_I (by omega) (by omega) (by omega), I_clamp j (by omega), hby.2.1, L_of (by omega) (by omega), L_of (by omega) (by omega), show (10 : Int64) = L 10 from rfl, show (48 : Int64) = L 48 from rfl, show (2000000000 : Int64) = L 2000000000 from rfl, L_mul, L_add, L_sub, lmin_L (by omega) (by omega) (by omega) (by omega), I_of, nmL_e, nmL_e, I_succ]
    have e1 : nC (byt t) f (j + 1 - f) = min 2000000000 (nC (byt t) f (j - f) * 10 + (byt t j - 48)) := by
      rw [show j + 1 - f = (j - f) + 1 by omega, nC, show f + (j - f) = j by omega]
    rw [show min (2000000000 : Int) (10 * (nC (byt t) f (j - f) : Int) + (byt t j : Int) - 48) = (nC (byt t) f (j + 1 - f) : Int) by rw [e1]; omega]
    exact ih (j + 1) n (by omega) (by omega) (by omega)
theorem value_m (h : TK t M l f e k) : ∃ c : Nat, Mod_value M = some (I (c : Int)) ∧ c ≤ 2000000000 ∧ (k = 2 → c = nC (byt t) f (e - f)) := by
  have h0 := h
  obtain ⟨hb, h1, h2, h3, h4, h5, h6, h7, h8, h9⟩ := h
  have hl := hb.2.2.1
  unfold Mod_value
  rw [nmL_e, h2]
  by_cases c : k = 2
  · subst c
    refine ⟨nC (byt t) f (e - f), ?_, nC_le _, fun _ => rfl⟩
    have := value_l h0 (e - f) f FU (by omega) (by omega) (by unfold FU; omega)
    rw [Nat.sub_self] at this
    exact this
  · refine ⟨0, ?_, by omega, fun h => absurd h c⟩
    obtain ⟨n, hn⟩ : ∃ n, FU = n + 1 := ⟨FU - 1, rfl⟩
    rw [hn, Mod_value_7, h7]
    by_cases d : e ≤ f
    · rw [h4, if_pos (I_le_t (by omega) (by omega) (by omega))]; rfl
    · rw [h4, if_neg (I_le_f (by omega) (by omega) (by omega)), if_neg (show ¬ I (k : Int) = (2 : Int32) from I_ne (a := (k : Int)) (b := 2) (by omega) (by omega) (by omega) (by omega) (by omega))]; rfl
/-- the number of the two -/
theorem num_tk (h : TK t M l f e 2) : ∃ a c : Nat, Toks_number t = I (a : Int) ∧ Mod_value M = some (I (c : Int)) ∧ a ≤ 99999 ∧ c ≤ 2000000000 ∧ (a = c ∨ (9999 < a ∧ 9999 < c)) := by
  obtain ⟨c, h1, h2, h3⟩ := value_m h
  obtain ⟨hb, -, -, -, -, h5, -, -, h8, h9⟩ := h
  obtain ⟨hd, hn⟩ := h9 rfl
  have hd' : ∀ i, i < e - f → isD (byt t (f + i)) = true := fun i hi => hd _ (by omega) (by omega)
  refine ⟨nA (byt t) f (e - f), c, hn, h1, nA_le _ hd', h2, ?_⟩
  rw [h3 rfl]
  exact nAC _ hd'
theorem value_c {M' : ModelV} (h : kpV M' = kpV M) : Mod_value M' = Mod_value M := by
  have key : ∀ (n : Nat) (x y : Int32), Mod_value_7 M' n x y = Mod_value_7 M n x y := by
    intro n
    induction n with
    | zero => intro x y; rfl
    | succ n ih =>
      intro x y
      rw [Mod_value_7, Mod_value_7, kpV.next h, kpV.token h, kpV.buffer h]
      simp only [nmL_e, ih]
  unfold Mod_value
  simp only [nmL_e, kpV.beginsAt h, key]
theorem TK.c {M' : ModelV} (h : TK t M l f e k) (hv : kpV M' = kpV M) : TK t M' l f e k := by
  obtain ⟨hb, h1, h2, h3, h4, h5, h6, h7, h8, h9⟩ := h
  exact ⟨hb.c rfl (kpV.limit hv) (kpV.buffer hv), h1, (kpV.beginsAt hv).trans h2, h3, (kpV.next hv).trans h4, h5, h6, (kpV.token hv).trans h7, h8, h9⟩
/-- words -/
def mt (t : ToksV) (f : Nat) (s : List Int32) : Nat → Nat → Bool
  | 0, _ => true
  | q + 1, j => decide (Toks_bytes t (f + j) = s.getD j 0) && mt t f s q (j + 1)
theorem stLen_I (i : Nat) : stLen i = I ((stL i).length : Int) := (I_ofNat _).symm
theorem stCh_I (i : Nat) {j : Nat} (h : j < 2147483648) : stCh i (I (j : Int)) = (stL i).getD j 0 := by
  unfold stCh
  rw [I_clamp j h]
theorem word_s {i : Nat} (hi : stOK i = true) (h : TK t M l f e k) (hlen : e = f + (stL i).length) : ∀ (q j n : Nat), (stL i).length = j + q → q < n → Toks_isWord_28 i t n (I (j : Int)) = some (mt t f (stL i) q j) := by
  obtain ⟨hb, h1, h2, h3, h4, h5, h6, h7, h8, h9⟩ := h
  have hl := hb.2.2.1
  intro q
  induction q with
  | zero =>
    intro j n hj hn
    obtain ⟨n, rfl⟩ : ∃ q, n = q + 1 := ⟨n - 1, by omega⟩
    rw [Toks_isWord_28, gd_t hi, stLen_I, if_pos (I_le_t (by omega) (by omega) (by omega)), mt]
  | succ q ih =>
    intro j n hj hn
    obtain ⟨n, rfl⟩ : ∃ q, n = q + 1 := ⟨n - 1, by omega⟩
    rw [Toks_isWord_28, gd_t hi, stLen_I, if_neg (I_le_f (by omega) (by omega) (by omega)), h1, I_add, show (f : Int) + (j : Int) = ((f + j : Nat) : Int) by omega, if_neg (neg_f (by omega)), if_neg (show ¬ (600 : Int32) ≤ I ((f + j : Nat) : Int) from I_le_f (a := 600) (b := ((f + j : Nat) : Int)) (by omega) (by omega) (by omega)), gd_I (by omega) (by omega) (by omega), gd_I (by omega) (by omega) (by omega), I_clamp _ (by omega), stCh_I i (by omega), nmL_e, I_succ, mt]
    by_cases c : Toks_bytes t (f + j) = (stL i).getD j 0
    · rw [if_pos c, decide_eq_true c, Bool.true_and]
      exact ih (j + 1) n (by omega) (by omega)
    · rw [if_neg c, decide_eq_false c, Bool.false_and]
theorem word39_f {i n : Nat} {x : Int32} : Mod_isWord_39 i M (n + 1) 0 x = some false := by
  rw [Mod_isWord_39, if_pos rfl]
  rfl
theorem word_m {i j : Nat} (hij : stL i = stL j) (hj : stOK j = true) (h : TK t M l f e k) (hlen : e = f + (stL i).length) : ∀ (q p n : Nat), (stL i).length = p + q → q + 1 < n → Mod_isWord_39 j M n 1 (I (p : Int)) = some (mt t f (stL i) q p) := by
  obtain ⟨hb, h1, h2, h3, h4, h5, h6, h7, h8, h9⟩ := h
  have hl := hb.2.2.1
  intro q
  induction q with
  | zero =>
    intro p n hp hn
    obtain ⟨n, rfl⟩ : ∃ q, n = q + 1 := ⟨n - 1, by omega⟩
    rw [Mod_isWord_39, if_neg (by decide), gd_t hj, stLen_I, ← hij, if_pos (I_le_t (by omega) (by omega) (by omega)), mt]
    rfl
  | succ q ih =>
    intro p n hp hn
    obtain ⟨n, rfl⟩ : ∃ q, n = q + 1 := ⟨n - 1, by omega⟩
    have hby := hb.2.2.2 (f + p) (by omega)
    rw [Mod_isWord_39, if_neg (by decide), gd_t hj, stLen_I, stCh_I j (by omega), ← hij, if_neg (I_le_f (by omega) (by omega) (by omega)), h2, I_add, show (f : Int) + (p : Int) = ((f + p : Nat) : Int) by omega, gd_I (by omega) (by omega) (by omega), gd_I (by omega) (by omega) (by omega), I_clamp _ (by omega), hby.2.1, ← hby.1, nmL_e, I_succ, mt]
    by_cases c : Toks_bytes t (f + p) = (stL i).getD p 0
    · rw [if_pos c.symm, decide_eq_true c, Bool.true_and]
      exact ih (p + 1) n (by omega) (by omega)
    · rw [if_neg (fun h => c h.symm), decide_eq_false c, Bool.false_and]
      obtain ⟨n, rfl⟩ : ∃ q, n = q + 1 := ⟨n - 1, by omega⟩
      exact word39_f
theorem isWord_tk {i j : Nat} (hij : stL i = stL j) (hi : stOK i = true) (hj : stOK j = true) (h : TK t M l f e k) (he : Model_error M = 0) : ∃ b, Toks_isWord i t = some b ∧ Mod_isWord j M = some b ∧ (b = true → k = 1 ∧ e = f + (stL i).length) := by
  have hlen := st_len i
  obtain ⟨hb, h1, h2, h3, h4, h5, h6, h7, h8, h9⟩ := id h
  have hl := hb.2.2.1
  unfold Toks_isWord Mod_isWord
  rw [he, if_pos rfl, h6, h7]
  by_cases c : k = 1
  · subst c
    have hfe : f < e := by omega
    rw [if_pos (show I ((1 : Nat) : Int) = (1 : Int32) from rfl), if_pos (show I ((1 : Nat) : Int) = (1 : Int32) from rfl), gd_t hi, gd_t hj, h1, h3, h2, h4, I_sub, stLen_I, stLen_I, ← hij]
    by_cases d : e = f + (stL i).length
    · rw [if_pos (by rw [I_eq (by omega) (by omega) (by omega) (by omega)]; omega), if_pos (by rw [I_eq (by omega) (by omega) (by omega) (by omega)]; omega)]
      exact ⟨_, word_s hi h d (stL i).length 0 FU (by omega) (by unfold FU; omega), word_m hij hj h d (stL i).length 0 FU (by omega) (by unfold FU; omega), fun _ => ⟨rfl, d⟩⟩
    · rw [if_neg (I_ne (by omega) (by omega) (by omega) (by omega) (by omega)), if_neg (I_ne (by omega) (by omega) (by omega) (by omega) (by omega))]
      exact ⟨false, rfl, word39_f, fun h => absurd h (by decide)⟩
  · have hk : k ≤ 3 := by omega
    rw [if_neg (show ¬ I (k : Int) = (1 : Int32) from I_ne (a := (k : Int)) (b := 1) (by omega) (by omega) (by omega) (by omega) (by omega)), if_neg (show ¬ I (k : Int) = (1 : Int32) from I_ne (a := (k : Int)) (b := 1) (by omega) (by omega) (by omega) (by omega) (by omega))]
    exact ⟨false, rfl, word39_f, fun h => absurd h (by decide)⟩
theorem isSign_tk (x : Int32) (h : TK t M l f e k) (he : Model_error M = 0) : ∃ b, Toks_isSign x t = some b ∧ Mod_isSymbol x M = some b ∧ (b = true → k = 3 ∧ Toks_bytes t f = x) := by
  obtain ⟨hb, h1, h2, h3, h4, h5, h6, h7, h8, h9⟩ := id h
  have hl := hb.2.2.1
  unfold Toks_isSign Mod_isSymbol
  rw [he, if_pos rfl, h6, h7, h1, h2]
  by_cases c : k = 3
  · subst c
    have hfe : f < e := by omega
    have hby := hb.2.2.2 f (by omega)
    rw [if_pos (show I ((3 : Nat) : Int) = (3 : Int32) from rfl), if_pos (show I ((3 : Nat) : Int) = (3 : Int32) from rfl), if_neg (neg_f (by omega)), if_neg (show ¬ (600 : Int32) ≤ I (f : Int) from I_le_f (a := 600) (b := (f : Int)) (by omega) (by omega) (by omega)), gd_I (by omega) (by omega) (by omega), gd_I (by omega) (by omega) (by omega), I_clamp f (by omega), hby.2.1, ← hby.1]
    by_cases d : Toks_bytes t f = x
    · rw [if_pos d]; exact ⟨true, rfl, rfl, fun _ => ⟨rfl, d⟩⟩
    · rw [if_neg d]; exact ⟨false, rfl, rfl, fun h => absurd h (by decide)⟩
  · have hk : k ≤ 3 := by omega
    rw [if_neg (show ¬ I (k : Int) = (3 : Int32) from I_ne (a := (k : Int)) (b := 3) (by omega) (by omega) (by omega) (by omega) (by omega)), if_neg (show ¬ I (k : Int) = (3 : Int32) from I_ne (a := (k : Int)) (b := 3) (by omega) (by omega) (by omega) (by omega) (by omega))]
    exact ⟨false, rfl, rfl, fun h => absurd h (by decide)⟩
theorem tk_k (h : TK t M l f e k) : k ≤ 3 := by
  have := h.2.2.2.2.2.2.2.2.1
  omega
theorem kind_tk (h : TK t M l f e k) {c : Nat} (hc : c ≤ 3) : (Toks_kind t = I (c : Int) ↔ k = c) ∧ (Model_token M = I (c : Int) ↔ k = c) := by
  have hk := tk_k h
  rw [h.2.2.2.2.2.2.1, h.2.2.2.2.2.2.2.1, I_eq (by omega) (by omega) (by omega) (by omega)]
  exact ⟨by omega, by omega⟩
theorem isEnd_tk (h : TK t M l f e k) : Toks_isEnd t = some (decide (k = 0)) := by
  have : Toks_kind t = 0 ↔ k = 0 := (kind_tk h (c := 0) (by omega)).1
  unfold Toks_isEnd
  by_cases c : k = 0
  · rw [if_pos (this.mpr c), decide_eq_true c]
  · rw [if_neg (fun h => c (this.mp h)), decide_eq_false c]
theorem isNumber_tk (h : TK t M l f e k) : Toks_isNumber t = some (decide (k = 2)) := by
  have : Toks_kind t = 2 ↔ k = 2 := (kind_tk h (c := 2) (by omega)).1
  unfold Toks_isNumber
  by_cases c : k = 2
  · rw [if_pos (this.mpr c), decide_eq_true c]
  · rw [if_neg (fun h => c (this.mp h)), decide_eq_false c]
end VAL
