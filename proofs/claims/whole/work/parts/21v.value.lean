section VALUE
variable {K : KT} {T : TT} {t : ToksV} {M : ModelV} {l f e k : Nat} {v : HouseV} {sv : SightV}
/-- a code put down -/
theorem emit_ss (h : SS K T t M l f e k) {cc : Nat} (hc : Model_codeCount M = I (cc : Int)) (h2 : cc < 200) (x : Int32) : ∃ N, Mod_emit x M = some N ∧ SS K T t N l f e k ∧ Model_codeCount N = I ((cc + 1 : Nat) : Int) ∧ Model_codes N = upd (Model_codes M) cc x ∧ Model_nested N = Model_nested M := by
  unfold Mod_emit
  rw [if_pos h.2.2.2, hc, gd_I (by omega) (by omega) (by omega), I_clamp cc (by omega), nmL_e, nmL_e, Mo_codeCount_codes, hc, I_succ]
  refine ⟨_, rfl, ⟨h.1.c ?_, h.2.1, ?_, ?_⟩, Mo_codeCount_codeCount _ _, ?_, ?_⟩
  · exact (kpV_codeCount _ _).trans (kpV_codes _ _)
  · exact ((kp_codeCount _ _).trans (kp_codes _ _)).trans h.2.2.1
  · rw [Mo_error_codeCount, Mo_error_codes]; exact h.2.2.2
  · rw [Mo_codes_codeCount, Mo_codes_codes]
  · rw [Mo_nested_codeCount, Mo_nested_codes]
theorem emit_e (h : ¬ Model_error M = 0) (x : Int32) : Mod_emit x M = some M := by
  unfold Mod_emit
  rw [if_neg h]
theorem readValues_e {q : QReadV} (h : ¬ QRead_error q = 0) (v : HouseV) (sv : SightV) (row : Nat → Int32) : QRead_readValues q t v sv row = some (q, t, row) := by
  have h77 : QRead_readValues_77 v sv q t row = some (q, t, row) := by
    unfold QRead_readValues_77 QRead_readValues_112
    rw [if_neg h, if_neg h]
  unfold QRead_readValues
  obtain ⟨n, hn⟩ : ∃ n, FU = n + 1 := ⟨FU - 1, rfl⟩
  rw [hn, QRead_readValues_3, h77]
  by_cases c1 : House_rooms v ≤ 0
  · rw [if_pos c1]
  · rw [if_neg c1, if_neg (by decide), if_neg h]
/-- the rows of a value -/
theorem row_l {q : QReadV} (hv : HOK v) (hq : QRead_error q = 0) {z : Nat → Int} (hz : ∀ r, r < hR v → 0 ≤ z r ∧ z r ≤ 2147483647) (hst : ∀ r, r < hR v → ∀ (n : Nat) (row : Nat → Int32), QRead_readValues_3 v sv (n + 1) (I (r : Int)) q t row = QRead_readValues_57 v sv (fun x4 v0 v1 v4 => QRead_readValues_3 v sv n x4 v0 v1 v4) (I (r : Int)) (I (z r)) (I (r : Int)) q t row) : ∀ (m k n : Nat) (row : Nat → Int32), hR v = k + m → m < n → (∀ r, r < k → row r = I (z r)) → ∃ row', QRead_readValues_3 v sv n (I (k : Int)) q t row = QRead_readValues_77 v sv q t row' ∧ ∀ r, r < hR v → row' r = I (z r) := by
  have hR12 : hR v ≤ 12 := hv.1.2.2.1
  have eR : House_rooms v = I (hR v : Int) := hv.1.1
  intro m
  induction m with
  | zero =>
    intro k n row hk hn hr
    obtain ⟨n, rfl⟩ : ∃ q, n = q + 1 := ⟨n - 1, by omega⟩
    rw [QRead_readValues_3, eR, if_pos (I_le_t (by omega) (by omega) (by omega))]
    exact ⟨row, rfl, fun r h => hr r (by omega)⟩
  | succ m ih =>
    intro k n row hk hn hr
    obtain ⟨n, rfl⟩ : ∃ q, n = q + 1 := ⟨n - 1, by omega⟩
    have hb := hz k (by omega)
    rw [hst k (by omega)]
    unfold QRead_readValues_57
    rw [gd_I (by omega) (by omega) (by omega), nmL_e, gd_I (by omega) (by omega) (by omega), I_clamp k (by omega), upd_i, Im1, if_neg (I_ne (by omega) (by omega) (by omega) (by omega) (by omega)), nmL_e, I_succ]
    refine ih (k + 1) n _ (by omega) (by omega) fun r h => ?_
    by_cases c : r = k
    · rw [c, upd_i]
    · rw [upd_n c]; exact hr r (by omega)
/-- a value -/
theorem value_ss (h : SS K T t M l f e k) (hl : l ≤ 200) (hv : HOK v) (hso : SOK sv v) {q : QReadV} (hq : QRead_error q = 0) {cc : Nat} (hc : Model_codeCount M = I (cc : Int)) (hcf : cc ≤ f) (row : Nat → Int32) : (∃ (c : Nat) (q' : QReadV) (row' : Nat → Int32) (M' : ModelV), QRead_readValues q t v sv row = some (q', t, row') ∧ QRead_error q' = I (c : Int) ∧ Mod_compileValue M = some M' ∧ EE K T t M' c) ∨ (∃ (z : Nat → Int) (t' : ToksV) (row' : Nat → Int32) (M' : ModelV) (f' e' k' : Nat), QRead_readValues q t v sv row = some (q, t', row') ∧ (∀ r, r < hR v → row' r = I (z r)) ∧ (∀ r, r < hR v → 0 ≤ z r ∧ z r ≤ 2147483647) ∧ Mod_compileValue M = some M' ∧ SS K T t' M' l f' e' k' ∧ f < f' ∧ Model_codeCount M' = I ((cc + 1 : Nat) : Int) ∧ Model_nested M' = Model_nested M ∧ (∀ i, i < cc → Model_codes M' i = Model_codes M i) ∧ PUSH (PVM v) (hR v) (Model_codes M') cc (cc + 1) z) := by
  have hn := hv.1
  have hR12 : hR v ≤ 12 := hn.2.2.1
  have hR1 : 1 ≤ hR v := hn.2.1
  have eR : House_rooms v = I (hR v : Int) := hn.1
  have t1 := h.1
  have hel : e ≤ l := t1.2.2.2.2.2.1
  have h13 : 12 < FU := by unfold FU; omega
  unfold Mod_compileValue
  rw [if_pos h.2.2.2]
  by_cases hk : k = 2
  · subst hk
    have hfe : f < e := by
      have := t1.2.2.2.2.2.2.2.2.1
      omega
    rw [if_pos ((km2 t1).mpr rfl)]
    unfold Mod_compileValue_15
    obtain ⟨a, c, n1, n2, n3, n4, n5⟩ := num_tk t1
    obtain ⟨row', r1, r2⟩ := row_l (sv := sv) (t := t) hv hq (z := fun _ => (a : Int)) (fun r _ => ⟨by omega, by omega⟩) (fun r hr n row => by
      rw [QRead_readValues_3, eR, if_neg (I_le_f (by omega) (by omega) (by omega)), I12, if_neg (I_le_f (by omega) (by omega) (by omega)), if_pos hq, isNumber_tk t1, bind_s, decide_eq_true rfl, bif_t, n1]) (hR v) 0 FU row (by omega) (by omega) (fun r hr => absurd hr (by omega))
    have hrv : QRead_readValues q t v sv row = QRead_readValues_77 v sv q t row' := r1
    rw [hrv]
    unfold QRead_readValues_77
    rw [if_pos hq, isNumber_tk t1, bind_s, decide_eq_true rfl, bif_t, n1]
    rcases num_ss h (lo := 0) (hi := 9999) (by omega) (by omega) (by omega) (by omega) with ⟨c2, M2, m0, m1, m2, m3⟩ | ⟨b, t2, M2, fq, eq, kq, m1, m2, m3, m4, m5, m6, m7, m8, m9, m10, -⟩
    · left
      have m2' : Mod_readNumber 0 9999 M = some (0, M2) := m2
      have hnc := numberCode_s t1 n1 n3 (lo := 0) (hi := 9999) (by omega) (by omega) (by omega) (by omega)
      rw [m1] at hnc
      by_cases c9 : a ≤ 9999
      · exfalso
        rw [if_pos (by omega)] at hnc
        exact m3.c0 (Option.some.inj hnc)
      · rw [if_neg (by omega)] at hnc
        rw [if_neg (show ¬ I (a : Int) ≤ (9999 : Int32) from I_le_f (a := (a : Int)) (b := 9999) (by omega) (by omega) (by omega)), nmL_e]
        unfold QRead_readValues_112
        rw [if_neg (show ¬ QRead_error (QRead_set_error q 2) = 0 by show ¬ (2 : Int32) = 0; decide)]
        refine ⟨c2, QRead_set_error q 2, row', M2, rfl, (Option.some.inj hnc).symm, ?_, m3⟩
        rw [m2', bind_s, emit_e m3.ne, bind_s]
    · right
      have m6' : Mod_readNumber 0 9999 M = some (I (b : Int), M2) := m6
      have hab : a = b := by
        have e1 : I (a : Int) = I (b : Int) := n1.symm.trans m4
        rw [I_eq (by omega) (by omega) (by omega) (by omega)] at e1
        omega
      subst hab
      rw [if_pos (show I (a : Int) ≤ (9999 : Int32) from I_le_t (a := (a : Int)) (b := 9999) (by omega) (by omega) (by omega))]
      unfold QRead_readValues_112
      obtain ⟨N, e1, e2, e3, e4, e5⟩ := emit_ss m7 (cc := cc) (m10.2.2.2.trans hc) (by omega) (I (a : Int))
      rw [if_pos hq, m5, bind_s, m6', bind_s, e1, bind_s]
      refine ⟨fun _ => (a : Int), t2, row', N, fq, eq, kq, rfl, r2, fun r _ => by show 0 ≤ (a : Int) ∧ (a : Int) ≤ 2147483647; omega, rfl, e2, by omega, e3, e5.trans m10.2.1, fun i hi => ?_, push_num pvm_set (by omega) (by rw [e4, upd_i])⟩
      rw [e4, upd_n (by omega), m10.2.2.1]
  · rw [if_neg fun q => hk ((km2 t1).mp q)]
    rcases prop_ss h hv hso q with ⟨p, p1, p2, p3⟩ | ⟨p2, p3⟩
    · right
      have hkw : f < e := by
        -- a word stands here
        have hd := t1.2.2.2.2.2.2.2.2.1
        by_cases c : k = 0
        · exfalso
          subst c
          have hw : QRead_propertyOf (I ((0 : Nat) : Int)) q t v sv = some (-1) := by
            have hall : ∀ i, Toks_isWord i t = some false := fun i => by
              unfold Toks_isWord
              rw [t1.2.2.2.2.2.2.1, if_neg (by decide)]
            unfold QRead_propertyOf
            rw [hasRoom_s hn (by omega) (by omega), bind_s]
            cases decide ((0 : Int) ≤ ((0 : Nat) : Int) ∧ ((0 : Nat) : Int) < (hR v : Int))
            · rfl
            · rw [bif_t]
              simp only [hall, bind_s, bif_f]
          have h0 := p2 0 (by omega)
          rw [hw] at h0
          have hb := pv_b hv (p := p) (r := 0) (by omega)
          have h0 := Option.some.inj h0
          rw [Im1, I_eq (by omega) (by omega) (by omega) (by omega)] at h0
          omega
        · omega
      obtain ⟨row', r1, r2⟩ := row_l (sv := sv) (t := t) hv hq (z := pv v p) (fun r hr => pv_b hv hr) (fun r hr n row => by
        rw [QRead_readValues_3, eR, if_neg (I_le_f (by omega) (by omega) (by omega)), I12, if_neg (I_le_f (by omega) (by omega) (by omega)), if_pos hq, isNumber_tk t1, bind_s, decide_eq_false hk, bif_f, p2 r hr, bind_s]) (hR v) 0 FU row (by omega) (by omega) (fun r hr => absurd hr (by omega))
      have hrv : QRead_readValues q t v sv row = QRead_readValues_77 v sv q t row' := r1
      rw [hrv]
      unfold QRead_readValues_77 QRead_readValues_112
      obtain ⟨N, e1, e2, e3, e4, e5⟩ := emit_ss h (cc := cc) hc (by omega) (I (-1 - (p : Int)))
      obtain ⟨t', M', f', e', k', a1, a2, a3, a4, a5⟩ := adv_ss e2
      rw [if_pos hq, isNumber_tk t1, bind_s, decide_eq_false hk, bif_f, if_pos hq, a1, bind_s, p3]
      unfold Mod_compileValue_58 Mod_compileValue_73
      rw [I11, if_neg (I_le_f (by omega) (by omega) (by omega)), asB_1, check_t, bind_s, Im1, I_sub, e1, bind_s, advance_0 e2.2.2.2, a2, bind_s]
      refine ⟨pv v p, t', row', M', f', e', k', rfl, r2, fun r hr => pv_b hv hr, rfl, a3, by omega, a5.2.2.2.trans e3, a5.2.1.trans e5, fun i hi => ?_, push_prop pvm_set p1 (fun r hr => pv_b hv hr) (fun N r hN hr => prop_m hv hN p1 hr) (by rw [a5.2.2.1, e4, upd_i])⟩
      rw [a5.2.2.1, e4, upd_n (by omega)]
    · left
      obtain ⟨M', m1, m2⟩ := flaw_ee h (c := 1) (by omega) (by omega)
      obtain ⟨n, hfu⟩ : ∃ n, FU = n + 1 + 1 := ⟨FU - 2, rfl⟩
      have hs : ∃ row', QRead_readValues q t v sv row = some (QRead_set_error q 1, t, row') := by
        have hne : ¬ QRead_error (QRead_set_error q 1) = 0 := by show ¬ (1 : Int32) = 0; decide
        have h77 : ∀ row, QRead_readValues_77 v sv (QRead_set_error q 1) t row = some (QRead_set_error q 1, t, row) := fun row => by
          unfold QRead_readValues_77 QRead_readValues_112
          rw [if_neg hne, if_neg hne]
        unfold QRead_readValues
        rw [hfu, QRead_readValues_3, eR, if_neg (show ¬ I (hR v : Int) ≤ (0 : Int32) from I_le_f (a := (hR v : Int)) (b := 0) (by omega) (by omega) (by omega)), if_neg (by decide), if_pos hq, isNumber_tk t1, bind_s, decide_eq_false hk, bif_f, show (0 : Int32) = I ((0 : Nat) : Int) from rfl, p2 0 (by omega), bind_s]
        unfold QRead_readValues_57
        rw [gd_I (by omega) (by omega) (by omega), nmL_e, gd_I (by omega) (by omega) (by omega), I_clamp 0 (by omega), upd_i, if_pos rfl, nmL_e, nmL_e]
        dsimp only
        rw [QRead_readValues_3, eR]
        refine ⟨upd row 0 (-1), ?_⟩
        by_cases c1 : I (hR v : Int) ≤ I ((0 : Nat) : Int) + 1
        · rw [if_pos c1, h77]
        · rw [if_neg c1]
          by_cases c2 : (12 : Int32) ≤ I ((0 : Nat) : Int) + 1
          · rw [if_pos c2, h77]
          · rw [if_neg c2, if_neg hne, h77]
      obtain ⟨row', hrow⟩ := hs
      refine ⟨1, QRead_set_error q 1, row', M', hrow, rfl, ?_, m2⟩
      rw [p3]
      unfold Mod_compileValue_58 Mod_compileValue_73
      rw [if_pos (by decide), asB_0, show (1 : Int32) = I ((1 : Nat) : Int) from rfl, m1, bind_s, emit_e m2.ne, bind_s, advance_e m2.ne, bind_s]
end VALUE
