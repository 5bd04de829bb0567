section TOK
/-- the bytes of the text -/
def byt (t : ToksV) (i : Nat) : Nat := (Toks_bytes t i).toNatClampNeg
def kpt (t : ToksV) : (Nat → Int32) × Int32 × Int32 := (Toks_bytes t, Toks_filled t, Toks_limit t)
def TB (t : ToksV) (M : ModelV) (l : Nat) : Prop := Toks_limit t = I (l : Int) ∧ Model_limit M = I (l : Int) ∧ l ≤ 600 ∧ ∀ i, i < l → Toks_bytes t i = I (byt t i : Int) ∧ Model_buffer M i = I (byt t i : Int) ∧ byt t i < 256
theorem byt_c {t t' : ToksV} (h : kpt t' = kpt t) : byt t' = byt t := by
  have : Toks_bytes t' = Toks_bytes t := congrArg (fun q => q.1) h
  unfold byt
  rw [this]
theorem TB.c {t t' : ToksV} {M M' : ModelV} {l : Nat} (h : TB t M l) (h1 : kpt t' = kpt t) (h2 : Model_limit M' = Model_limit M) (h3 : Model_buffer M' = Model_buffer M) : TB t' M' l := by
  obtain ⟨a, b, c, d⟩ := h
  have e1 : Toks_bytes t' = Toks_bytes t := congrArg (fun q => q.1) h1
  have e2 : Toks_limit t' = Toks_limit t := congrArg (fun q => q.2.2) h1
  unfold TB
  rw [byt_c h1, e1, e2, h2, h3]
  exact ⟨a, b, c, d⟩
def isL (b : Nat) : Bool := decide (97 ≤ b ∧ b ≤ 122)
def isD (b : Nat) : Bool := decide (48 ≤ b ∧ b ≤ 57)
theorem letter_s {b : Nat} (h : b < 256) : (if I (b : Int) < 97 then some false else if 122 < I (b : Int) then some false else some true) = some (isL b) := by
  unfold isL
  by_cases c1 : b < 97
  · rw [if_pos (show I (b : Int) < (97 : Int32) from I_lt_t (a := (b : Int)) (b := 97) (by omega) (by omega) (by omega)), decide_eq_false (by omega)]
  · rw [if_neg (show ¬ I (b : Int) < (97 : Int32) from I_lt_f (a := (b : Int)) (b := 97) (by omega) (by omega) (by omega))]
    by_cases c2 : 122 < b
    · rw [if_pos (show (122 : Int32) < I (b : Int) from I_lt_t (a := 122) (b := (b : Int)) (by omega) (by omega) (by omega)), decide_eq_false (by omega)]
    · rw [if_neg (show ¬ (122 : Int32) < I (b : Int) from I_lt_f (a := 122) (b := (b : Int)) (by omega) (by omega) (by omega)), decide_eq_true (by omega)]
theorem digit_s {b : Nat} (h : b < 256) : (if I (b : Int) < 48 then some false else if 57 < I (b : Int) then some false else some true) = some (isD b) := by
  unfold isD
  by_cases c1 : b < 48
  · rw [if_pos (show I (b : Int) < (48 : Int32) from I_lt_t (a := (b : Int)) (b := 48) (by omega) (by omega) (by omega)), decide_eq_false (by omega)]
  · rw [if_neg (show ¬ I (b : Int) < (48 : Int32) from I_lt_f (a := (b : Int)) (b := 48) (by omega) (by omega) (by omega))]
    by_cases c2 : 57 < b
    · rw [if_pos (show (57 : Int32) < I (b : Int) from I_lt_t (a := 57) (b := (b : Int)) (by omega) (by omega) (by omega)), decide_eq_false (by omega)]
    · rw [if_neg (show ¬ (57 : Int32) < I (b : Int) from I_lt_f (a := 57) (b := (b : Int)) (by omega) (by omega) (by omega)), decide_eq_true (by omega)]
/-- what a byte is that is no blank: 1 in a word, 2 in a number, 3 a sign -/
def kdN (b : Nat) : Nat := if isL b = true then 1 else if isD b = true then 2 else 3
theorem kind14_s {b : Nat} (h : b < 256) (hl : isL b = false) : Toks_kindOf_14 (I (b : Int)) = some (I (kdN b : Int)) := by
  have e : kdN b = if isD b = true then 2 else 3 := by unfold kdN; rw [hl]; rfl
  rw [e]
  unfold Toks_kindOf_14 isD
  by_cases c1 : b < 48
  · rw [if_pos (show I (b : Int) < (48 : Int32) from I_lt_t (a := (b : Int)) (b := 48) (by omega) (by omega) (by omega)), decide_eq_false (by omega)]; rfl
  · rw [if_neg (show ¬ I (b : Int) < (48 : Int32) from I_lt_f (a := (b : Int)) (b := 48) (by omega) (by omega) (by omega))]
    by_cases c2 : 57 < b
    · rw [if_pos (show (57 : Int32) < I (b : Int) from I_lt_t (a := 57) (b := (b : Int)) (by omega) (by omega) (by omega)), decide_eq_false (by omega)]; rfl
    · rw [if_neg (show ¬ (57 : Int32) < I (b : Int) from I_lt_f (a := 57) (b := (b : Int)) (by omega) (by omega) (by omega)), decide_eq_true (by omega)]; rfl
theorem kind_s {b : Nat} (h : b < 256) : Toks_kindOf (I (b : Int)) = some (I (kdN b : Int)) := by
  unfold Toks_kindOf
  by_cases c1 : b < 97
  · rw [if_pos (show I (b : Int) < (97 : Int32) from I_lt_t (a := (b : Int)) (b := 97) (by omega) (by omega) (by omega))]
    exact kind14_s h (decide_eq_false (by omega))
  · rw [if_neg (show ¬ I (b : Int) < (97 : Int32) from I_lt_f (a := (b : Int)) (b := 97) (by omega) (by omega) (by omega))]
    by_cases c2 : 122 < b
    · rw [if_pos (show (122 : Int32) < I (b : Int) from I_lt_t (a := 122) (b := (b : Int)) (by omega) (by omega) (by omega))]
      exact kind14_s h (decide_eq_false (by omega))
    · rw [if_neg (show ¬ (122 : Int32) < I (b : Int) from I_lt_f (a := 122) (b := (b : Int)) (by omega) (by omega) (by omega))]
      have e : kdN b = 1 := by unfold kdN; rw [if_pos (show isL b = true from decide_eq_true (by omega))]
      rw [e]; rfl
theorem kd_L {b : Nat} (h : isL b = true) : kdN b = 1 := by unfold kdN; rw [if_pos h]
theorem kd_D {b : Nat} (h0 : isL b = false) (h : isD b = true) : kdN b = 2 := by unfold kdN; rw [if_neg (by rw [h0]; decide), if_pos h]
theorem kd_S {b : Nat} (h0 : isL b = false) (h : isD b = false) : kdN b = 3 := by unfold kdN; rw [if_neg (by rw [h0]; decide), if_neg (by rw [h]; decide)]
theorem D_nL {b : Nat} (h : isD b = true) : isL b = false := by
  have h2 : 48 ≤ b ∧ b ≤ 57 := of_decide_eq_true h
  exact decide_eq_false (by omega)
theorem kd_le (b : Nat) : 1 ≤ kdN b ∧ kdN b ≤ 3 := by unfold kdN; split; exact ⟨by omega, by omega⟩; split <;> exact ⟨by omega, by omega⟩
theorem kd_1 {b : Nat} (h : isL b = false) : kdN b ≠ 1 := by
  cases hd : isD b
  · rw [kd_S h hd]; decide
  · rw [kd_D h hd]; decide
theorem kd_2 {b : Nat} (h : isD b = false) : kdN b ≠ 2 := by
  cases hl : isL b
  · rw [kd_S hl h]; decide
  · rw [kd_L hl]; decide
theorem kd_ne {b k : Nat} (h : kdN b ≠ k) (hk : k ≤ 3) : ¬ I (kdN b : Int) = I (k : Int) := by
  have h1 := kd_le b
  exact I_ne (by omega) (by omega) (by omega) (by omega) (by omega)
variable {t : ToksV} {M : ModelV} {l : Nat}
theorem byteAt_m (h : TB t M l) {p : Nat} (hp : p < l) : Mod_byteAt (I (p : Int)) M = some (I (byt t p : Int)) := by
  obtain ⟨a, b, c, d⟩ := h
  unfold Mod_byteAt
  rw [b, if_neg (I_le_f (by omega) (by omega) (by omega)), gd_I (by omega) (by omega) (by omega), I_clamp p (by omega), (d p hp).2.1]
theorem byteAt_e (h : TB t M l) {p : Nat} (hp : l ≤ p) (h2 : p ≤ 2000) : Mod_byteAt (I (p : Int)) M = some (-1) := by
  obtain ⟨a, b, c, d⟩ := h
  unfold Mod_byteAt
  rw [b, if_pos (I_le_t (by omega) (by omega) (by omega))]
theorem letter_m (h : TB t M l) {p : Nat} (hp : p < l) : Mod_isLetter (I (p : Int)) M = some (isL (byt t p)) := by
  have hb := (h.2.2.2 p hp).2.2
  unfold Mod_isLetter
  rw [byteAt_m h hp, bind_s, bind_s]
  exact letter_s hb
theorem digit_m (h : TB t M l) {p : Nat} (hp : p < l) : Mod_isDigit (I (p : Int)) M = some (isD (byt t p)) := by
  have hb := (h.2.2.2 p hp).2.2
  unfold Mod_isDigit
  rw [byteAt_m h hp, bind_s, bind_s]
  exact digit_s hb
theorem letter_e (h : TB t M l) {p : Nat} (hp : l ≤ p) (h2 : p ≤ 2000) : Mod_isLetter (I (p : Int)) M = some false := by
  unfold Mod_isLetter
  rw [byteAt_e h hp h2, bind_s, if_pos (by decide)]
theorem digit_e (h : TB t M l) {p : Nat} (hp : l ≤ p) (h2 : p ≤ 2000) : Mod_isDigit (I (p : Int)) M = some false := by
  unfold Mod_isDigit
  rw [byteAt_e h hp h2, bind_s, if_pos (by decide)]
theorem neg_f {p : Nat} (hp : p < 2147483648) : ¬ I (p : Int) < (0 : Int32) := I_lt_f (a := (p : Int)) (b := 0) (by omega) (by omega) (by omega)
/-- a word -/
theorem word_l : ∀ (q p n1 n2 : Nat) (t : ToksV) (M : ModelV), TB t M l → l = p + q → q < n1 → q < n2 → Toks_kind t = I ((1 : Nat) : Int) → Toks_to t = I (p : Int) → Model_next M = I (p : Int) → ∃ e t' M', p ≤ e ∧ e ≤ l ∧ Toks_advance_129 n1 t = some t' ∧ Mod_scan_77 n2 M = some M' ∧ kpt t' = kpt t ∧ Toks_from t' = Toks_from t ∧ Toks_kind t' = Toks_kind t ∧ Toks_to t' = I ((e : Nat) : Int) ∧ kpT M' = kpT M ∧ Model_beginsAt M' = Model_beginsAt M ∧ Model_next M' = I ((e : Nat) : Int) ∧ Model_token M' = 1 ∧ (p < l → isL (byt t p) = true → p < e) := by
  intro q
  induction q with
  | zero =>
    intro p n1 n2 t M hb hl h1 h2 hk ht hm
    obtain ⟨n1, rfl⟩ : ∃ q, n1 = q + 1 := ⟨n1 - 1, by omega⟩
    obtain ⟨n2, rfl⟩ : ∃ q, n2 = q + 1 := ⟨n2 - 1, by omega⟩
    have h6 := hb.2.2.1
    refine ⟨p, t, _, by omega, by omega, ?_, ?_, rfl, rfl, rfl, ht, kpT_token M 1, Mo_beginsAt_token M 1, ?_, Mo_token_token M 1, fun h => absurd h (by omega)⟩
    · rw [Toks_advance_129, ht, if_neg (neg_f (by omega)), hb.1, if_pos (I_le_t (by omega) (by omega) (by omega))]
    · rw [Mod_scan_77, hm, letter_e hb (by omega) (by omega), bind_s, bif_f, nmL_e]
    · rw [Mo_next_token]; exact hm
  | succ q ih =>
    intro p n1 n2 t M hb hl h1 h2 hk ht hm
    obtain ⟨n1, rfl⟩ : ∃ q, n1 = q + 1 := ⟨n1 - 1, by omega⟩
    obtain ⟨n2, rfl⟩ : ∃ q, n2 = q + 1 := ⟨n2 - 1, by omega⟩
    have h6 := hb.2.2.1
    have hby := hb.2.2.2 p (by omega)
    rw [Toks_advance_129, ht, if_neg (neg_f (by omega)), hb.1, if_neg (I_le_f (by omega) (by omega) (by omega)), gd_I (by omega) (by omega) (by omega), I_clamp p (by omega), hby.1, kind_s hby.2.2, bind_s, hk, Mod_scan_77, hm, letter_m hb (by omega), bind_s]
    cases hL : isL (byt t p)
    · rw [if_neg (kd_ne (kd_1 hL) (by omega)), bif_f, nmL_e]
      exact ⟨p, t, _, by omega, by omega, rfl, rfl, rfl, rfl, hk, ht, kpT_token M 1, Mo_beginsAt_token M 1, by rw [Mo_next_token]; exact hm, Mo_token_token M 1, fun _ h => absurd h (by decide)⟩
    · rw [if_pos (by rw [kd_L hL]), if_neg (show ¬ I ((1 : Nat) : Int) = (2 : Int32) by decide), bif_t, nmL_e, nmL_e, I_succ]
      obtain ⟨e, t', M', a1, a2, a3, a4, a5, a6, a7, a8, a9, a10, a11, a12, a13⟩ := ih (p + 1) n1 n2 (Toks_set_to t (I ((p + 1 : Nat) : Int))) (Model_set_next M (I ((p + 1 : Nat) : Int))) (hb.c rfl (Mo_limit_next _ _) (Mo_buffer_next _ _)) (by omega) (by omega) (by omega) hk rfl (Mo_next_next _ _)
      exact ⟨e, t', M', by omega, a2, a3, a4, a5.trans rfl, a6.trans rfl, a7.trans hk, a8, a9.trans (kpT_next _ _), a10.trans (Mo_beginsAt_next _ _), a11, a12, fun _ _ => by omega⟩
/-- the class's number of n digits behind f -/
def nA (b : Nat → Nat) (f : Nat) : Nat → Nat
  | 0 => 0
  | k + 1 => if 9999 < nA b f k then nA b f k else nA b f k * 10 + (b (f + k) - 48)
theorem nA_le {b : Nat → Nat} {f : Nat} (k : Nat) (h : ∀ i, i < k → isD (b (f + i)) = true) : nA b f k ≤ 99999 := by
  induction k with
  | zero => exact Nat.zero_le _
  | succ k ih =>
    have h1 := ih fun i hi => h i (by omega)
    have h2 : 48 ≤ b (f + k) ∧ b (f + k) ≤ 57 := of_decide_eq_true (h k (by omega))
    unfold nA
    split <;> omega
theorem num_l {f : Nat} : ∀ (q p n1 n2 : Nat) (t : ToksV) (M : ModelV), TB t M l → l = p + q → q < n1 → q < n2 → Toks_kind t = I ((2 : Nat) : Int) → f ≤ p → (∀ i, f ≤ i → i < p → isD (byt t i) = true) → Toks_number t = I (nA (byt t) f (p - f) : Int) → Toks_to t = I (p : Int) → Model_next M = I (p : Int) → ∃ e t' M', p ≤ e ∧ e ≤ l ∧ Toks_advance_129 n1 t = some t' ∧ Mod_scan_120 n2 M = some M' ∧ kpt t' = kpt t ∧ Toks_from t' = Toks_from t ∧ Toks_kind t' = Toks_kind t ∧ Toks_to t' = I ((e : Nat) : Int) ∧ kpT M' = kpT M ∧ Model_beginsAt M' = Model_beginsAt M ∧ Model_next M' = I ((e : Nat) : Int) ∧ Model_token M' = 2 ∧ (p < l → isD (byt t p) = true → p < e) ∧ (∀ i, f ≤ i → i < e → isD (byt t i) = true) ∧ Toks_number t' = I (nA (byt t) f (e - f) : Int) := by
  intro q
  induction q with
  | zero =>
    intro p n1 n2 t M hb hl h1 h2 hk hf hd hnb ht hm
    obtain ⟨n1, rfl⟩ : ∃ q, n1 = q + 1 := ⟨n1 - 1, by omega⟩
    obtain ⟨n2, rfl⟩ : ∃ q, n2 = q + 1 := ⟨n2 - 1, by omega⟩
    have h6 := hb.2.2.1
    refine ⟨p, t, _, by omega, by omega, ?_, ?_, rfl, rfl, rfl, ht, kpT_token M 2, Mo_beginsAt_token M 2, ?_, Mo_token_token M 2, fun h => absurd h (by omega), hd, hnb⟩
    · rw [Toks_advance_129, ht, if_neg (neg_f (by omega)), hb.1, if_pos (I_le_t (by omega) (by omega) (by omega))]
    · rw [Mod_scan_120, hm, digit_e hb (by omega) (by omega), bind_s, bif_f, nmL_e]
    · rw [Mo_next_token]; exact hm
  | succ q ih =>
    intro p n1 n2 t M hb hl h1 h2 hk hf hd hnb ht hm
    obtain ⟨n1, rfl⟩ : ∃ q, n1 = q + 1 := ⟨n1 - 1, by omega⟩
    obtain ⟨n2, rfl⟩ : ∃ q, n2 = q + 1 := ⟨n2 - 1, by omega⟩
    have h6 := hb.2.2.1
    have hby := hb.2.2.2 p (by omega)
    rw [Toks_advance_129, ht, if_neg (neg_f (by omega)), hb.1, if_neg (I_le_f (by omega) (by omega) (by omega)), gd_I (by omega) (by omega) (by omega), I_clamp p (by omega), hby.1, kind_s hby.2.2, bind_s, hk, Mod_scan_120, hm, digit_m hb (by omega), bind_s]
    cases hD : isD (byt t p)
    · rw [if_neg (kd_ne (kd_2 hD) (by omega)), bif_f, nmL_e]
      exact ⟨p, t, _, by omega, by omega, rfl, rfl, rfl, rfl, hk, ht, kpT_token M 2, Mo_beginsAt_token M 2, by rw [Mo_next_token]; exact hm, Mo_token_token M 2, fun _ h => absurd h (by decide), hd, hnb⟩
    · have hd' : ∀ i, f ≤ i → i < p + 1 → isD (byt t i) = true := fun i h1 h2 => by
        by_cases c : i = p
        · rw [c]; exact hD
        · exact hd i h1 (by omega)
      have hle : nA (byt t) f (p - f) ≤ 99999 := nA_le _ fun i hi => hd _ (by omega) (by omega)
      have hD2 : 48 ≤ byt t p ∧ byt t p ≤ 57 := of_decide_eq_true hD
      have hst : nA (byt t) f (p + 1 - f) = if 9999 < nA (byt t) f (p - f) then nA (byt t) f (p - f) else nA (byt t) f (p - f) * 10 + (byt t p - 48) := by
        rw [show p + 1 - f = (p - f) + 1 by omega, nA, show f + (p - f) = p by omega]
      have hM : TB t (Model_set_next M (I ((p + 1 : Nat) : Int))) l := hb.c rfl (Mo_limit_next _ _) (Mo_buffer_next _ _)
      rw [if_pos (by rw [kd_D (D_nL hD) hD]), if_pos (show I ((2 : Nat) : Int) = (2 : Int32) by decide), bif_t, nmL_e, hnb, I_succ]
      by_cases c : 9999 < nA (byt t) f (p - f)
      · rw [if_pos c] at hst
        rw [if_pos (show (9999 : Int32) < I (nA (byt t) f (p - f) : Int) from I_lt_t (a := 9999) (b := (nA (byt t) f (p - f) : Int)) (by omega) (by omega) (by omega)), nmL_e]
        obtain ⟨e, t', M', a1, a2, a3, a4, a5, a6, a7, a8, a9, a10, a11, a12, a13, a14, a15⟩ := ih (p + 1) n1 n2 (Toks_set_to t (I ((p + 1 : Nat) : Int))) (Model_set_next M (I ((p + 1 : Nat) : Int))) (hM.c rfl rfl rfl) (by omega) (by omega) (by omega) hk (by omega) hd' (by rw [show byt (Toks_set_to t (I ((p + 1 : Nat) : Int))) = byt t from rfl, hst]; exact hnb) rfl (Mo_next_next _ _)
        exact ⟨e, t', M', by omega, a2, a3, a4, a5.trans rfl, a6.trans rfl, a7.trans hk, a8, a9.trans (kpT_next _ _), a10.trans (Mo_beginsAt_next _ _), a11, a12, fun _ _ => by omega, a14, a15⟩
      · rw [if_neg c] at hst
        rw [if_neg (show ¬ (9999 : Int32) < I (nA (byt t) f (p - f) : Int) from I_lt_f (a := 9999) (b := (nA (byt t) f (p - f) : Int)) (by omega) (by omega) (by omega)), nmL_e, nmL_e, show (48 : Int32) = I 48 from rfl, I10, I_mul, I_add, I_sub]
        have e2 : Toks_to (Toks_set_number t (I ((nA (byt t) f (p - f) : Int) * 10 + (byt t p : Int) - 48))) = I (p : Int) := ht
        rw [e2, I_succ]
        obtain ⟨e, t', M', a1, a2, a3, a4, a5, a6, a7, a8, a9, a10, a11, a12, a13, a14, a15⟩ := ih (p + 1) n1 n2 (Toks_set_to (Toks_set_number t (I ((nA (byt t) f (p - f) : Int) * 10 + (byt t p : Int) - 48))) (I ((p + 1 : Nat) : Int))) (Model_set_next M (I ((p + 1 : Nat) : Int))) (hM.c rfl rfl rfl) (by omega) (by omega) (by omega) hk (by omega) hd' (by
          show I ((nA (byt t) f (p - f) : Int) * 10 + (byt t p : Int) - 48) = I (nA (byt t) f (p + 1 - f) : Int)
          rw [hst]
          congr 1
          omega) rfl (Mo_next_next _ _)
        exact ⟨e, t', M', by omega, a2, a3, a4, a5.trans rfl, a6.trans rfl, a7.trans hk, a8, a9.trans (kpT_next _ _), a10.trans (Mo_beginsAt_next _ _), a11, a12, fun _ _ => by omega, a14, a15⟩
/-- the present token -/
def TK (t : ToksV) (M : ModelV) (l f e k : Nat) : Prop := TB t M l ∧ Toks_from t = I (f : Int) ∧ Model_beginsAt M = I (f : Int) ∧ Toks_to t = I (e : Int) ∧ Model_next M = I (e : Int) ∧ e ≤ l ∧ Toks_kind t = I (k : Int) ∧ Model_token M = I (k : Int) ∧ (k = 0 ∧ f = l ∧ e = l ∨ 1 ≤ k ∧ k ≤ 3 ∧ f < e) ∧ (k = 2 → (∀ i, f ≤ i → i < e → isD (byt t i) = true) ∧ Toks_number t = I (nA (byt t) f (e - f) : Int))
theorem adv59 (hb : TB t M l) {p n : Nat} (hp : p ≤ l) (ht : Toks_to t = I (p : Int)) (hm : Model_next M = I (p : Int)) (hw : p < l → byt t p ≠ 32 ∧ byt t p ≠ 10) : ∃ f e k t' M', Toks_advance_59 t = some t' ∧ Mod_scan_0 (n + 1) M = some M' ∧ TK t' M' l f e k ∧ p ≤ f ∧ kpt t' = kpt t ∧ kpT M' = kpT M := by
  have h6 := hb.2.2.1
  have e1 : Toks_from (Toks_set_number (Toks_set_from t (I (p : Int))) 0) = I (p : Int) := rfl
  have e2 : Toks_limit (Toks_set_number (Toks_set_from t (I (p : Int))) 0) = I (l : Int) := hb.1
  have e3 : Toks_bytes (Toks_set_number (Toks_set_from t (I (p : Int))) 0) = Toks_bytes t := rfl
  have e4 : Toks_to (Toks_set_number (Toks_set_from t (I (p : Int))) 0) = I (p : Int) := ht
  unfold Toks_advance_59
  rw [Mod_scan_0]
  simp only [nmL_e]
  rw [ht, e1, e2, if_neg (neg_f (by omega)), hm]
  have hbm : TB t (Model_set_beginsAt M (I (p : Int))) l := hb.c rfl (Mo_limit_beginsAt _ _) (Mo_buffer_beginsAt _ _)
  have m1 : Model_next (Model_set_beginsAt M (I (p : Int))) = I (p : Int) := (Mo_next_beginsAt _ _).trans hm
  have m2 : Model_limit (Model_set_beginsAt M (I (p : Int))) = I (l : Int) := (Mo_limit_beginsAt _ _).trans hb.2.1
  have m3 : Model_beginsAt (Model_set_beginsAt M (I (p : Int))) = I (p : Int) := Mo_beginsAt_beginsAt _ _
  by_cases c : p < l
  · have hby := hb.2.2.2 p c
    obtain ⟨w1, w2⟩ := hw c
    rw [if_neg (I_le_f (by omega) (by omega) (by omega)), gd_I (by omega) (by omega) (by omega), I_clamp p (by omega), e3, hby.1, kind_s hby.2.2, bind_s, byteAt_m hb c, bind_s, if_neg (show ¬ I (byt t p : Int) = (32 : Int32) from I_ne (a := (byt t p : Int)) (b := 32) (by omega) (by omega) (by omega) (by omega) (by omega)), bind_s, if_neg (show ¬ I (byt t p : Int) = (10 : Int32) from I_ne (a := (byt t p : Int)) (b := 10) (by omega) (by omega) (by omega) (by omega) (by omega)), m1, m2, if_pos (I_lt_t (by omega) (by omega) (by omega)), letter_m hbm c, bind_s]
    unfold Toks_advance_107
    rw [nmL_e]
    have e6 : ∀ x, Toks_kind (Toks_set_kind (Toks_set_number (Toks_set_from t (I (p : Int))) 0) x) = x := fun _ => rfl
    rw [e6]
    cases hL : isL (byt t p)
    · rw [bif_f, digit_m hbm c, bind_s]
      cases hD : isD (byt t p)
      · rw [bif_f, kd_S hL hD, if_pos (show I ((3 : Nat) : Int) = (3 : Int32) by decide), nmL_e]
        have e5 : Toks_to (Toks_set_kind (Toks_set_number (Toks_set_from t (I (p : Int))) 0) (I ((3 : Nat) : Int))) = I (p : Int) := ht
        rw [e5, I_succ]
        refine ⟨p, p + 1, 3, _, _, rfl, rfl, ⟨hb.c rfl ?_ ?_, rfl, ?_, rfl, ?_, by omega, rfl, Mo_token_token _ _, Or.inr ⟨by omega, by omega, by omega⟩, fun h => absurd h (by omega)⟩, by omega, rfl, ?_⟩
        · rw [Mo_limit_token, Mo_limit_next, Mo_limit_beginsAt]
        · rw [Mo_buffer_token, Mo_buffer_next, Mo_buffer_beginsAt]
        · rw [Mo_beginsAt_token, Mo_beginsAt_next, Mo_beginsAt_beginsAt]
        · rw [Mo_next_token, Mo_next_next]
        · rw [kpT_token, kpT_next, kpT_beginsAt]
      · rw [bif_t, kd_D hL hD, if_neg (show ¬ I ((2 : Nat) : Int) = (3 : Int32) by decide)]
        obtain ⟨e, t', M', a1, a2, a3, a4, a5, a6, a7, a8, a9, a10, a11, a12, a13, a14, a15⟩ := num_l (f := p) (l := l) (l - p) p FU FU (Toks_set_kind (Toks_set_number (Toks_set_from t (I (p : Int))) 0) (I ((2 : Nat) : Int))) (Model_set_beginsAt M (I (p : Int))) (hbm.c rfl rfl rfl) (by omega) (by unfold FU; omega) (by unfold FU; omega) rfl (by omega) (fun i h1 h2 => absurd h1 (by omega)) (by rw [Nat.sub_self]; rfl) ht m1
        rw [a3, a4]
        refine ⟨p, e, 2, t', M', rfl, rfl, ⟨hb.c (a5.trans rfl) ?_ ?_, a6.trans rfl, a10.trans m3, a8, a11, a2, a7.trans rfl, a12, Or.inr ⟨by omega, by omega, a13 c hD⟩, fun _ => ⟨?_, ?_⟩⟩, by omega, a5.trans rfl, a9.trans (kpT_beginsAt _ _)⟩
        · exact (kpT.limit a9).trans (Mo_limit_beginsAt _ _)
        · exact (kpT.buffer a9).trans (Mo_buffer_beginsAt _ _)
        · rw [byt_c (a5.trans rfl : kpt t' = kpt t)]; exact a14
        · rw [byt_c (a5.trans rfl : kpt t' = kpt t)]; exact a15
    · rw [bif_t, kd_L hL, if_neg (show ¬ I ((1 : Nat) : Int) = (3 : Int32) by decide)]
      obtain ⟨e, t', M', a1, a2, a3, a4, a5, a6, a7, a8, a9, a10, a11, a12, a13⟩ := word_l (l := l) (l - p) p FU FU (Toks_set_kind (Toks_set_number (Toks_set_from t (I (p : Int))) 0) (I ((1 : Nat) : Int))) (Model_set_beginsAt M (I (p : Int))) (hbm.c rfl rfl rfl) (by omega) (by unfold FU; omega) (by unfold FU; omega) rfl ht m1
      rw [a3, a4]
      refine ⟨p, e, 1, t', M', rfl, rfl, ⟨hb.c (a5.trans rfl) ?_ ?_, a6.trans rfl, a10.trans m3, a8, a11, a2, a7.trans rfl, a12, Or.inr ⟨by omega, by omega, a13 c hL⟩, fun h => absurd h (by omega)⟩, by omega, a5.trans rfl, a9.trans (kpT_beginsAt _ _)⟩
      · exact (kpT.limit a9).trans (Mo_limit_beginsAt _ _)
      · exact (kpT.buffer a9).trans (Mo_buffer_beginsAt _ _)
  · obtain rfl : p = l := by omega
    rw [if_pos (I_le_t (by omega) (by omega) (by omega)), byteAt_e hb (by omega) (by omega), bind_s, if_neg (by decide), bind_s, if_neg (by decide), m1, m2, if_neg (I_lt_f (by omega) (by omega) (by omega))]
    unfold Toks_advance_106 Toks_advance_107
    rw [nmL_e]
    have e6 : Toks_kind (Toks_set_kind (Toks_set_number (Toks_set_from t (I (p : Int))) 0) 0) = 0 := rfl
    rw [e6, if_neg (show ¬ (0 : Int32) = 3 by decide)]
    have e7 : Toks_advance_129 FU (Toks_set_kind (Toks_set_number (Toks_set_from t (I (p : Int))) 0) 0) = some (Toks_set_kind (Toks_set_number (Toks_set_from t (I (p : Int))) 0) 0) := by
      have e8 : Toks_to (Toks_set_kind (Toks_set_number (Toks_set_from t (I (p : Int))) 0) 0) = I (p : Int) := ht
      have e9 : Toks_limit (Toks_set_kind (Toks_set_number (Toks_set_from t (I (p : Int))) 0) 0) = I (p : Int) := hb.1
      rw [show FU = (FU - 1) + 1 from by unfold FU; omega, Toks_advance_129, e8, e9, if_neg (neg_f (by omega)), if_pos (I_le_t (by omega) (by omega) (by omega))]
    rw [e7]
    refine ⟨p, p, 0, _, _, rfl, rfl, ⟨hb.c rfl ?_ ?_, rfl, ?_, ht, ?_, by omega, rfl, Mo_token_token _ _, Or.inl ⟨rfl, rfl, rfl⟩, fun h => absurd h (by omega)⟩, by omega, rfl, ?_⟩
    · rw [Mo_limit_token, Mo_limit_beginsAt]
    · rw [Mo_buffer_token, Mo_buffer_beginsAt]
    · rw [Mo_beginsAt_token, Mo_beginsAt_beginsAt]
    · rw [Mo_next_token, Mo_next_beginsAt]; exact hm
    · rw [kpT_token, kpT_beginsAt]
theorem adv_l : ∀ (q p n1 n2 : Nat) (t : ToksV) (M : ModelV), TB t M l → l = p + q → q < n1 → q < n2 → Toks_to t = I (p : Int) → Model_next M = I (p : Int) → ∃ f e k t' M', Toks_advance_0 n1 t = some t' ∧ Mod_scan_0 n2 M = some M' ∧ TK t' M' l f e k ∧ p ≤ f ∧ kpt t' = kpt t ∧ kpT M' = kpT M := by
  intro q
  induction q with
  | zero =>
    intro p n1 n2 t M hb hl h1 h2 ht hm
    obtain ⟨n1, rfl⟩ : ∃ q, n1 = q + 1 := ⟨n1 - 1, by omega⟩
    obtain ⟨n2, rfl⟩ : ∃ q, n2 = q + 1 := ⟨n2 - 1, by omega⟩
    have h6 := hb.2.2.1
    rw [Toks_advance_0, ht, if_neg (neg_f (by omega)), hb.1, if_pos (I_le_t (by omega) (by omega) (by omega))]
    exact adv59 hb (by omega) ht hm fun h => absurd h (by omega)
  | succ q ih =>
    intro p n1 n2 t M hb hl h1 h2 ht hm
    obtain ⟨n1, rfl⟩ : ∃ q, n1 = q + 1 := ⟨n1 - 1, by omega⟩
    obtain ⟨n2, rfl⟩ : ∃ q, n2 = q + 1 := ⟨n2 - 1, by omega⟩
    have h6 := hb.2.2.1
    have hby := hb.2.2.2 p (by omega)
    have hrec : ∃ f e k t' M', Toks_advance_0 n1 (Toks_set_to t (I ((p + 1 : Nat) : Int))) = some t' ∧ Mod_scan_0 n2 (Model_set_next M (I ((p + 1 : Nat) : Int))) = some M' ∧ TK t' M' l f e k ∧ p ≤ f ∧ kpt t' = kpt t ∧ kpT M' = kpT M := by
      obtain ⟨f, e, k, t', M', a1, a2, a3, a4, a5, a6⟩ := ih (p + 1) n1 n2 (Toks_set_to t (I ((p + 1 : Nat) : Int))) (Model_set_next M (I ((p + 1 : Nat) : Int))) (hb.c rfl (Mo_limit_next _ _) (Mo_buffer_next _ _)) (by omega) (by omega) (by omega) rfl (Mo_next_next _ _)
      exact ⟨f, e, k, t', M', a1, a2, a3, by omega, a5.trans rfl, a6.trans (kpT_next _ _)⟩
    rw [Toks_advance_0, ht, if_neg (neg_f (by omega)), hb.1, if_neg (I_le_f (by omega) (by omega) (by omega)), gd_I (by omega) (by omega) (by omega), I_clamp p (by omega), hby.1, nmL_e, I_succ]
    by_cases c1 : byt t p = 32
    · rw [if_pos (show I (byt t p : Int) = (32 : Int32) by rw [c1]; rfl), Mod_scan_0, hm, byteAt_m hb (by omega), bind_s, if_pos (show I (byt t p : Int) = (32 : Int32) by rw [c1]; rfl), nmL_e, I_succ]
      exact hrec
    · by_cases c2 : byt t p = 10
      · rw [if_neg (show ¬ I (byt t p : Int) = (32 : Int32) from I_ne (a := (byt t p : Int)) (b := 32) (by omega) (by omega) (by omega) (by omega) (by omega)), if_pos (show I (byt t p : Int) = (10 : Int32) by rw [c2]; rfl), Mod_scan_0, hm, byteAt_m hb (by omega), bind_s, if_neg (show ¬ I (byt t p : Int) = (32 : Int32) from I_ne (a := (byt t p : Int)) (b := 32) (by omega) (by omega) (by omega) (by omega) (by omega)), bind_s, if_pos (show I (byt t p : Int) = (10 : Int32) by rw [c2]; rfl), nmL_e, I_succ]
        exact hrec
      · rw [if_neg (show ¬ I (byt t p : Int) = (32 : Int32) from I_ne (a := (byt t p : Int)) (b := 32) (by omega) (by omega) (by omega) (by omega) (by omega)), if_neg (show ¬ I (byt t p : Int) = (10 : Int32) from I_ne (a := (byt t p : Int)) (b := 10) (by omega) (by omega) (by omega) (by omega) (by omega))]
        exact adv59 hb (by omega) ht hm fun _ => ⟨c1, c2⟩
theorem adv_tk {p : Nat} (hb : TB t M l) (hp : p ≤ l) (ht : Toks_to t = I (p : Int)) (hm : Model_next M = I (p : Int)) : ∃ f e k t' M', Toks_advance t = some t' ∧ Mod_scan M = some M' ∧ TK t' M' l f e k ∧ p ≤ f ∧ kpt t' = kpt t ∧ kpT M' = kpT M := by
  have h6 := hb.2.2.1
  exact adv_l (l - p) p FU FU t M hb (by omega) (by unfold FU; omega) (by unfold FU; omega) ht hm
end TOK
