section SS0
theorem kpV_flaw (M : ModelV) (x y : Int32) : kpV (Model_set_errorAt (Model_set_error M x) y) = kpV M := (kpV_errorAt _ _).trans (kpV_error _ _)
theorem kp_flaw (M : ModelV) (x y : Int32) : kp (Model_set_errorAt (Model_set_error M x) y) = kp M := (kp_errorAt _ _).trans (kp_error _ _)
/-- what the reading leaves alone -/
def KX (M' M : ModelV) : Prop := Model_draft M' = Model_draft M ∧ Model_nested M' = Model_nested M ∧ Model_codes M' = Model_codes M ∧ Model_codeCount M' = Model_codeCount M
theorem KX.refl (M : ModelV) : KX M M := ⟨rfl, rfl, rfl, rfl⟩
theorem KX.trans {a b c : ModelV} (h : KX a b) (g : KX b c) : KX a c := ⟨h.1.trans g.1, h.2.1.trans g.2.1, h.2.2.1.trans g.2.2.1, h.2.2.2.trans g.2.2.2⟩
theorem kpT_kp {M M' : ModelV} (h : kpT M' = kpT M) : kp M' = kp M := by
  unfold kp kpA
  rw [kpT.thrown h, kpT.now h, kpT.snapshot h, kpT.history h, kpT.undoCount h, kpT.hasSnapshot h, kpT.formatted h, kpT.formattedLength h, kpT.buffer h, kpT.bufferLength h, kpT.errorPosition h]
theorem kpT_kx {M M' : ModelV} (h : kpT M' = kpT M) : KX M' M := ⟨kpT.draft h, kpT.nested h, kpT.codes h, kpT.codeCount h⟩
abbrev KT := Int32 × ((Nat → Int32) × (Nat → Int32) × (Nat → Int32) × Int32 × Bool × (Nat → Int32) × Int32 × (Nat → Int32) × Int32 × Int32)
abbrev TT := (Nat → Int32) × Int32 × Int32
/-- the two read on -/
def SS (K : KT) (T : TT) (t : ToksV) (M : ModelV) (l f e k : Nat) : Prop := TK t M l f e k ∧ kpt t = T ∧ kp M = K ∧ Model_error M = 0
/-- the two found an error -/
def EE (K : KT) (T : TT) (t : ToksV) (M : ModelV) (c : Nat) : Prop := kpt t = T ∧ kp M = K ∧ Model_error M = I (c : Int) ∧ 1 ≤ c ∧ c ≤ 4 ∧ Model_errorAt M = Toks_from t ∧ ∃ x, Mod_value M = some x
variable {K : KT} {T : TT} {t : ToksV} {M : ModelV} {l f e k : Nat}
theorem kt2 (h : TK t M l f e k) : Toks_kind t = 2 ↔ k = 2 := (kind_tk h (c := 2) (by omega)).1
theorem km2 (h : TK t M l f e k) : Model_token M = 2 ↔ k = 2 := (kind_tk h (c := 2) (by omega)).2
theorem km0 (h : TK t M l f e k) : Model_token M = 0 ↔ k = 0 := (kind_tk h (c := 0) (by omega)).2
theorem check_t (c : Int32) (M : ModelV) : Mod_check true c M = some M := rfl
theorem advance_0 (h : Model_error M = 0) : Mod_advance M = Mod_scan M := by
  unfold Mod_advance
  rw [if_pos h]
  cases Mod_scan M <;> rfl
theorem adv_ss (h : SS K T t M l f e k) : ∃ t' M' f' e' k', Toks_advance t = some t' ∧ Mod_scan M = some M' ∧ SS K T t' M' l f' e' k' ∧ e ≤ f' ∧ KX M' M := by
  obtain ⟨h1, h2, h3, h4⟩ := h
  obtain ⟨f', e', k', t', M', a1, a2, a3, a4, a5, a6⟩ := adv_tk h1.1 h1.2.2.2.2.2.1 h1.2.2.2.1 h1.2.2.2.2.1
  exact ⟨t', M', f', e', k', a1, a2, ⟨a3, a5.trans h2, (kpT_kp a6).trans h3, (kpT.error a6).trans h4⟩, a4, kpT_kx a6⟩
theorem flaw_ee (h : SS K T t M l f e k) {c : Nat} (c1 : 1 ≤ c) (c4 : c ≤ 4) : ∃ M', Mod_check false (I (c : Int)) M = some M' ∧ EE K T t M' c := by
  obtain ⟨h1, h2, h3, h4⟩ := h
  unfold Mod_check Mod_flaw
  rw [h4, if_pos rfl, bif_f]
  simp only [nmL_e]
  rw [bind_s]
  refine ⟨_, rfl, h2, (kp_flaw _ _ _).trans h3, ?_, c1, c4, ?_, ?_⟩
  · rw [Mo_error_errorAt, Mo_error_error]
  · rw [Mo_errorAt_errorAt, Mo_beginsAt_error, h1.2.2.1, h1.2.1]
  · obtain ⟨x, hx, -⟩ := value_m h1
    exact ⟨_, (value_c (kpV_flaw _ _ _)).trans hx⟩
theorem EE.ne {c : Nat} (h : EE K T t M c) : ¬ Model_error M = 0 := by
  obtain ⟨-, -, h3, h4, h5, -⟩ := h
  rw [h3]
  exact I_ne (a := (c : Int)) (b := 0) (by omega) (by omega) (by omega) (by omega) (by omega)
theorem flaw_e (h : ¬ Model_error M = 0) (x : Int32) : Mod_flaw x M = some M := by unfold Mod_flaw; rw [if_neg h]
theorem check_e (h : ¬ Model_error M = 0) (b : Bool) (x : Int32) : Mod_check b x M = some M := by
  unfold Mod_check
  cases b
  · rw [bif_f, flaw_e h, bind_s]
  · rw [bif_t]
theorem advance_e (h : ¬ Model_error M = 0) : Mod_advance M = some M := by unfold Mod_advance; rw [if_neg h]
theorem isSymbol_e (h : ¬ Model_error M = 0) (x : Int32) : Mod_isSymbol x M = some false := by unfold Mod_isSymbol; rw [if_neg h]
theorem isWord_e (h : ¬ Model_error M = 0) (i : Nat) : Mod_isWord i M = some false := by
  unfold Mod_isWord
  rw [if_neg h]
  exact word39_f
theorem accept_e (h : ¬ Model_error M = 0) (i : Nat) : Mod_accept i M = some (false, M) := by
  unfold Mod_accept
  rw [isWord_e h, bind_s, nmL_e, if_pos (show b2i false = 0 from rfl)]
  rfl
theorem expectWord_e (h : ¬ Model_error M = 0) (i : Nat) : Mod_expectWord i M = some M := by
  unfold Mod_expectWord
  rw [isWord_e h, bind_s, check_e h, bind_s, advance_e h, bind_s]
theorem expect_e (h : ¬ Model_error M = 0) (x : Int32) : Mod_expect x M = some M := by
  unfold Mod_expect
  rw [isSymbol_e h, bind_s, check_e h, bind_s, advance_e h, bind_s]
theorem readNumber_e (h : ¬ Model_error M = 0) (hv : ∃ x, Mod_value M = some x) (a b : Int32) : Mod_readNumber a b M = some (a, M) := by
  obtain ⟨x, hx⟩ := hv
  unfold Mod_readNumber Mod_readNumber_16 Mod_readNumber_21
  rw [if_neg h, asB_1, check_e h, bind_s, hx, bind_s, if_neg h]
  unfold Mod_readNumber_47 Mod_readNumber_52
  rw [asB_1, check_e h, bind_s, advance_e h, bind_s, if_neg h]
theorem numberCode_s (h : TK t M l f e 2) {a : Nat} (ha : Toks_number t = I (a : Int)) (ha2 : a ≤ 99999) {lo hi : Int} (h0 : 0 ≤ lo) (h1 : lo ≤ 9999) (h2 : -1 ≤ hi) (h3 : hi ≤ 9999) : Toks_numberCode (I lo) (I hi) t = some (if lo ≤ a ∧ (a : Int) ≤ hi then 0 else 2) := by
  unfold Toks_numberCode
  rw [h.2.2.2.2.2.2.1, if_pos (show I ((2 : Nat) : Int) = (2 : Int32) from rfl), ha]
  by_cases c1 : (a : Int) < lo
  · rw [if_pos (I_lt_t (by omega) (by omega) (by omega)), if_neg (by omega)]
  · rw [if_neg (I_lt_f (by omega) (by omega) (by omega))]
    by_cases c2 : (a : Int) ≤ hi
    · rw [if_pos (I_le_t (by omega) (by omega) (by omega)), if_pos (by omega)]
    · rw [if_neg (I_le_f (by omega) (by omega) (by omega)), if_neg (by omega)]
theorem numberCode_n (h : TK t M l f e k) (hk : k ≠ 2) (a b : Int32) : Toks_numberCode a b t = some 1 := by
  unfold Toks_numberCode
  rw [if_neg fun q => hk ((kt2 h).mp q)]
/-- a number where one must stand -/
theorem num_ss (h : SS K T t M l f e k) {lo hi : Int} (h0 : 0 ≤ lo) (h1 : lo ≤ 9999) (h2 : -1 ≤ hi) (h3 : hi ≤ 9999) : (∃ (c : Nat) (M' : ModelV), 1 ≤ c ∧ Toks_numberCode (I lo) (I hi) t = some (I (c : Int)) ∧ Mod_readNumber (I lo) (I hi) M = some (I lo, M') ∧ EE K T t M' c) ∨ (∃ (a : Nat) (t' : ToksV) (M' : ModelV) (f' e' k' : Nat), Toks_numberCode (I lo) (I hi) t = some 0 ∧ lo ≤ a ∧ (a : Int) ≤ hi ∧ Toks_number t = I (a : Int) ∧ Toks_advance t = some t' ∧ Mod_readNumber (I lo) (I hi) M = some (I (a : Int), M') ∧ SS K T t' M' l f' e' k' ∧ f < e ∧ e ≤ f' ∧ KX M' M ∧ k = 2) := by
  have hh := h
  obtain ⟨t1, t2, t3, t4⟩ := h
  unfold Mod_readNumber
  rw [if_pos t4]
  by_cases hk : k = 2
  · subst hk
    obtain ⟨a, c, n1, n2, n3, n4, n5⟩ := num_tk t1
    rw [if_pos ((km2 t1).mpr rfl), numberCode_s t1 n1 n3 h0 h1 h2 h3]
    unfold Mod_readNumber_16 Mod_readNumber_21
    rw [asB_1, check_t, bind_s, n2, bind_s, if_pos t4, inRange_s (by omega) (by omega) (by omega) (by omega) (by omega) (by omega), bind_s]
    by_cases cr : lo ≤ (c : Int) ∧ (c : Int) ≤ hi
    · obtain rfl : a = c := by omega
      right
      obtain ⟨t', M', f', e', k', a1, a2, a3, a4, a5⟩ := adv_ss hh
      have hfe : f < e := by
        have := t1.2.2.2.2.2.2.2.2.1
        omega
      refine ⟨a, t', M', f', e', k', by rw [if_pos cr], cr.1, cr.2, n1, a1, ?_, a3, hfe, a4, a5, rfl⟩
      unfold Mod_readNumber_47 Mod_readNumber_52
      rw [decide_eq_true cr, bif_t, asB_1, check_t, bind_s, advance_0 t4, a2, bind_s, if_pos a3.2.2.2]
    · left
      obtain ⟨M', m1, m2⟩ := flaw_ee hh (c := 2) (by omega) (by omega)
      refine ⟨2, M', by omega, by rw [if_neg (by omega)]; rfl, ?_, m2⟩
      unfold Mod_readNumber_52
      rw [decide_eq_false cr, bif_f, asB_0, show (2 : Int32) = I ((2 : Nat) : Int) from rfl, m1, bind_s, advance_e m2.ne, bind_s, if_neg m2.ne]
  · left
    obtain ⟨M', m1, m2⟩ := flaw_ee hh (c := 1) (by omega) (by omega)
    obtain ⟨x, hx⟩ := m2.2.2.2.2.2.2
    rw [if_neg fun q => hk ((km2 t1).mp q), numberCode_n t1 hk]
    refine ⟨1, M', by omega, rfl, ?_, m2⟩
    unfold Mod_readNumber_21
    rw [asB_0, show (1 : Int32) = I ((1 : Nat) : Int) from rfl, m1, bind_s, hx, bind_s, if_neg m2.ne]
    unfold Mod_readNumber_47 Mod_readNumber_52
    rw [asB_1, check_e m2.ne, bind_s, advance_e m2.ne, bind_s, if_neg m2.ne]
/-- a semicolon where one must stand -/
theorem semi_ss (h : SS K T t M l f e k) : (∃ M', HRead_readSemicolon t = some (1, t) ∧ Mod_expect 59 M = some M' ∧ EE K T t M' 1) ∨ (∃ t' M' f' e' k', HRead_readSemicolon t = some (0, t') ∧ Mod_expect 59 M = some M' ∧ SS K T t' M' l f' e' k' ∧ f < e ∧ e ≤ f' ∧ KX M' M) := by
  have hh := h
  obtain ⟨t1, t2, t3, t4⟩ := h
  obtain ⟨b, b1, b2, b3⟩ := isSign_tk 59 t1 t4
  unfold HRead_readSemicolon Mod_expect
  rw [b1, b2, bind_s, bind_s]
  cases b
  · left
    obtain ⟨M', m1, m2⟩ := flaw_ee hh (c := 1) (by omega) (by omega)
    refine ⟨M', by rw [bif_f], ?_, m2⟩
    rw [show (1 : Int32) = I ((1 : Nat) : Int) from rfl, m1, bind_s, advance_e m2.ne, bind_s]
  · right
    obtain ⟨t', M', f', e', k', a1, a2, a3, a4, a5⟩ := adv_ss hh
    have hfe : f < e := by
      have h9 := t1.2.2.2.2.2.2.2.2.1
      have := (b3 rfl).1
      omega
    refine ⟨t', M', f', e', k', by rw [bif_t, a1, bind_s], ?_, a3, hfe, a4, a5⟩
    rw [check_t, bind_s, advance_0 t4, a2, bind_s]
/-- a word where one can stand -/
theorem word_ss (h : SS K T t M l f e k) {i j : Nat} (hij : stL i = stL j) (hi : stOK i = true) (hj : stOK j = true) (hn : 0 < (stL i).length) : (Toks_isWord i t = some false ∧ Mod_isWord j M = some false ∧ Mod_accept j M = some (false, M)) ∨ (∃ t' M' f' e' k', Toks_isWord i t = some true ∧ Mod_isWord j M = some true ∧ Toks_advance t = some t' ∧ Mod_scan M = some M' ∧ Mod_accept j M = some (true, M') ∧ SS K T t' M' l f' e' k' ∧ f < e ∧ e ≤ f' ∧ KX M' M ∧ k = 1 ∧ e = f + (stL i).length) := by
  have hh := h
  obtain ⟨t1, t2, t3, t4⟩ := h
  obtain ⟨b, b1, b2, b3⟩ := isWord_tk hij hi hj t1 t4
  unfold Mod_accept
  rw [b1, b2, bind_s]
  cases b
  · exact Or.inl ⟨rfl, rfl, by rw [nmL_e, if_pos (show b2i false = 0 from rfl)]; rfl⟩
  · right
    obtain ⟨t', M', f', e', k', a1, a2, a3, a4, a5⟩ := adv_ss hh
    obtain ⟨c1, c2⟩ := b3 rfl
    refine ⟨t', M', f', e', k', rfl, rfl, a1, a2, ?_, a3, by omega, a4, a5, c1, c2⟩
    rw [nmL_e, if_neg (by decide), a2, bind_s]
    rfl
end SS0
