section CMP
variable {K : KT} {T : TT} {t : ToksV} {M : ModelV} {l f e k : Nat} {v : HouseV} {sv : SightV}
def ordB (o a b : Int) : Bool := if o < 0 then decide (a < b) else if 0 < o then decide (b < a) else decide (a = b)
theorem isOrdered_s {a b o : Int} (ho : -1 ≤ o) (ho2 : o ≤ 1) (ha : 0 ≤ a) (ha2 : a ≤ 2147483647) (hb : 0 ≤ b) (hb2 : b ≤ 2147483647) : QRead_isOrdered (I a) (I b) (I o) = some (ordB o a b) := by
  unfold QRead_isOrdered ordB
  by_cases c : o < 0
  · rw [if_pos c, if_neg (show ¬ (0 : Int32) ≤ I o from I_le_f (a := 0) (b := o) (by omega) (by omega) (by omega))]
    by_cases d : a < b
    · rw [if_neg (I_le_f (by omega) (by omega) (by omega)), decide_eq_true d]
    · rw [if_pos (I_le_t (by omega) (by omega) (by omega)), decide_eq_false d]
  · rw [if_neg c, if_pos (show (0 : Int32) ≤ I o from I_le_t (a := 0) (b := o) (by omega) (by omega) (by omega))]
    by_cases c2 : 0 < o
    · rw [if_pos c2, if_neg (show ¬ I o ≤ (0 : Int32) from I_le_f (a := o) (b := 0) (by omega) (by omega) (by omega))]
      by_cases d : b < a
      · rw [if_neg (I_le_f (by omega) (by omega) (by omega)), decide_eq_true d]
      · rw [if_pos (I_le_t (by omega) (by omega) (by omega)), decide_eq_false d]
    · rw [if_neg c2, if_pos (show I o ≤ (0 : Int32) from I_le_t (a := o) (b := 0) (by omega) (by omega) (by omega))]
      by_cases d : a = b
      · rw [if_pos (by rw [d]), decide_eq_true d]
      · rw [if_neg (I_ne d (by omega) (by omega) (by omega) (by omega)), decide_eq_false d]
theorem isOrdered_t (a b o : Int32) : ∃ q, QRead_isOrdered a b o = some q := by
  unfold QRead_isOrdered
  repeat' split
  all_goals exact ⟨_, rfl⟩
theorem cmp_tot (hn : WFn v) (o : Int32) (q : QReadV) (A B : Nat → Int32) : ∃ x, QRead_compareRows o q v A B = some x := by
  have hR12 : hR v ≤ 12 := hn.2.2.1
  have eR : House_rooms v = I (hR v : Int) := hn.1
  have key : ∀ (m k n : Nat) (x : Int32), hR v = k + m → m < n → ∃ y, QRead_compareRows_5 o q v A B n x (I (k : Int)) = some y := by
    intro m
    induction m with
    | zero =>
      intro k n x hk hm
      obtain ⟨n, rfl⟩ : ∃ q, n = q + 1 := ⟨n - 1, by omega⟩
      rw [QRead_compareRows_5, eR, if_pos (I_le_t (by omega) (by omega) (by omega))]
      exact ⟨_, rfl⟩
    | succ m ih =>
      intro k n x hk hm
      obtain ⟨n, rfl⟩ : ∃ q, n = q + 1 := ⟨n - 1, by omega⟩
      obtain ⟨b, hb⟩ := isOrdered_t (A (I (k : Int)).toNatClampNeg) (B (I (k : Int)).toNatClampNeg) o
      rw [QRead_compareRows_5, eR, if_neg (I_le_f (by omega) (by omega) (by omega)), I12, if_neg (I_le_f (by omega) (by omega) (by omega)), gd_I (by omega) (by omega) (by omega), hb, bind_s]
      cases b
      · rw [bif_f, nmL_e, I_succ]
        exact ih (k + 1) n _ (by omega) (by omega)
      · rw [bif_t, nmL_e, nmL_e, I_succ]
        exact ih (k + 1) n _ (by omega) (by omega)
  exact key (hR v) 0 FU 0 (by omega) (by unfold FU; omega)
theorem cmp_s (hn : WFn v) {o : Int} (ho : -1 ≤ o) (ho2 : o ≤ 1) (q : QReadV) {A B : Nat → Int32} {y z : Nat → Int} (hA : ∀ r, r < hR v → A r = I (y r)) (hB : ∀ r, r < hR v → B r = I (z r)) (hy : ∀ r, r < hR v → 0 ≤ y r ∧ y r ≤ 2147483647) (hz : ∀ r, r < hR v → 0 ≤ z r ∧ z r ≤ 2147483647) : QRead_compareRows (I o) q v A B = some (I ((msk (fun r => ordB o (y r) (z r)) (hR v) : Nat) : Int)) := by
  have hR12 : hR v ≤ 12 := hn.2.2.1
  have eR : House_rooms v = I (hR v : Int) := hn.1
  have key : ∀ (m k n : Nat), hR v = k + m → m < n → QRead_compareRows_5 (I o) q v A B n (I ((msk (fun r => ordB o (y r) (z r)) k : Nat) : Int)) (I (k : Int)) = some (I ((msk (fun r => ordB o (y r) (z r)) (hR v) : Nat) : Int)) := by
    intro m
    induction m with
    | zero =>
      intro k n hk hm
      obtain ⟨n, rfl⟩ : ∃ q, n = q + 1 := ⟨n - 1, by omega⟩
      rw [QRead_compareRows_5, eR, if_pos (I_le_t (by omega) (by omega) (by omega)), show hR v = k by omega]
    | succ m ih =>
      intro k n hk hm
      obtain ⟨n, rfl⟩ : ∃ q, n = q + 1 := ⟨n - 1, by omega⟩
      have h1 := hy k (by omega)
      have h2 := hz k (by omega)
      have := ih (k + 1) n (by omega) (by omega)
      rw [QRead_compareRows_5, eR, if_neg (I_le_f (by omega) (by omega) (by omega)), I12, if_neg (I_le_f (by omega) (by omega) (by omega)), gd_I (by omega) (by omega) (by omega), I_clamp k (by omega), hA k (by omega), hB k (by omega), isOrdered_s ho ho2 h1.1 h1.2 h2.1 h2.2, bind_s]
      rw [msk] at this
      cases hb : ordB o (y k) (z k)
      · rw [hb, bif_f, Nat.or_zero] at this
        rw [bif_f, nmL_e, I_succ]
        exact this
      · rw [hb, bif_t] at this
        rw [bif_t, nmL_e, nmL_e, I_succ, I_shl k (by omega), I_or]
        exact this
  exact key (hR v) 0 FU (by omega) (by unfold FU; omega)
/-- a set by numbers -/
def bv (S r : Nat) : Int := if S.testBit r = true then 1 else 0
theorem op_cmp {o a b : Int} (ho : -1 ≤ o) (ho2 : o ≤ 1) (ha : 0 ≤ a) (ha2 : a ≤ 2147483647) (hb : 0 ≤ b) (hb2 : b ≤ 2147483647) : Mod_operate (I (-21 - o)) (L a) (L b) = some (L (if ordB o a b = true then 1 else 0)) := by
  have hc := lcmp_L (a := a) (b := b) (by omega) (by omega) (by omega) (by omega)
  unfold Mod_operate ordB
  obtain rfl | rfl | rfl : o = -1 ∨ o = 0 ∨ o = 1 := by omega
  · rw [if_neg (by decide), if_neg (by decide), if_neg (by decide), if_neg (by decide), if_neg (by decide), if_pos (by decide), hc, if_pos (show (-1 : Int) < 0 by omega)]
    by_cases c : b < a
    · rw [if_pos c, if_pos (by decide), decide_eq_false (by omega)]; rfl
    · rw [if_neg c]
      by_cases d : a = b
      · rw [if_pos d, if_pos (by decide), decide_eq_false (by omega)]; rfl
      · rw [if_neg d, if_neg (by decide), decide_eq_true (by omega)]; rfl
  · rw [if_neg (by decide), if_neg (by decide), if_neg (by decide), if_neg (by decide), if_pos (by decide), hc, if_neg (show ¬ (0 : Int) < 0 by omega), if_neg (show ¬ (0 : Int) < 0 by omega)]
    by_cases c : b < a
    · rw [if_pos c, if_neg (by decide), decide_eq_false (by omega)]; rfl
    · rw [if_neg c]
      by_cases d : a = b
      · rw [if_pos d, if_pos (by decide), decide_eq_true d]; rfl
      · rw [if_neg d, if_neg (by decide), decide_eq_false d]; rfl
  · rw [if_neg (by decide), if_neg (by decide), if_neg (by decide), if_pos (by decide), hc, if_neg (show ¬ (1 : Int) < 0 by omega), if_pos (show (0 : Int) < 1 by omega)]
    by_cases c : b < a
    · rw [if_pos c, if_neg (by decide), decide_eq_true c]; rfl
    · rw [if_neg c]
      by_cases d : a = b
      · rw [if_pos d, if_pos (by decide), decide_eq_false c]; rfl
      · rw [if_neg d, if_pos (by decide), decide_eq_false c]; rfl
theorem op_and {a b : Bool} : Mod_operate (I (-24)) (L (if a = true then 1 else 0)) (L (if b = true then 1 else 0)) = some (L (if (a && b) = true then 1 else 0)) := by
  unfold Mod_operate
  rw [if_neg (by decide), if_pos (by decide)]
  cases a <;> cases b <;> decide
theorem op_or {a b : Bool} : Mod_operate (I (-25)) (L (if a = true then 1 else 0)) (L (if b = true then 1 else 0)) = some (L (if (a || b) = true then 1 else 0)) := by
  unfold Mod_operate
  rw [if_pos (by decide)]
  cases a <;> cases b <;> decide
theorem compileValue_e (h : ¬ Model_error M = 0) (hv : ∃ x, Mod_value M = some x) : Mod_compileValue M = some M := by
  unfold Mod_compileValue Mod_compileValue_15
  rw [if_neg h, readNumber_e h hv, bind_s, emit_e h, bind_s]
/-- the sign of a comparison, and what comes behind it -/
def mcF (FN : nestMT) (M : ModelV) : Option ModelV := Option.bind (Mod_isSymbol 60 M) fun p94 => bif p94 then Mod_compileFactor_121 FN (-20) M else Option.bind (Mod_isSymbol 61 M) fun p108 => bif p108 then Mod_compileFactor_121 FN (-21) M else Mod_compileFactor_121 FN (-22) M
theorem f143_e (h : ¬ Model_error M = 0) (hv : ∃ x, Mod_value M = some x) (FN : nestMT) (x s : Int32) (hs : s = 0 ∨ s = 1) : Mod_compileFactor_143 FN x s M = some M := by
  unfold Mod_compileFactor_143
  rcases hs with rfl | rfl
  · rw [asB_0, check_e h, bind_s, advance_e h, bind_s, compileValue_e h hv, bind_s, emit_e h, bind_s]
  · rw [asB_1, check_e h, bind_s, advance_e h, bind_s, compileValue_e h hv, bind_s, emit_e h, bind_s]
theorem mcF_e (h : ¬ Model_error M = 0) (hv : ∃ x, Mod_value M = some x) (FN : nestMT) : mcF FN M = some M := by
  unfold mcF Mod_compileFactor_121
  rw [isSymbol_e h, bind_s, bif_f, isSymbol_e h, bind_s, bif_f, if_pos rfl, isSymbol_e h, bind_s, bif_f, f143_e h hv FN _ _ (Or.inl rfl)]
theorem order_ss (h : SS K T t M l f e k) {q : QReadV} (hq : QRead_error q = 0) (FN : nestMT) : (∃ (q' : QReadV) (M' : ModelV), QRead_readOrder q t = some (0, q', t) ∧ QRead_error q' = 1 ∧ mcF FN M = some M' ∧ EE K T t M' 1) ∨ (∃ (o : Int) (t' : ToksV) (M' : ModelV) (f' e' k' : Nat), -1 ≤ o ∧ o ≤ 1 ∧ QRead_readOrder q t = some (I o, q, t') ∧ mcF FN M = (Option.bind (Mod_compileValue M') fun p => Option.bind (Mod_emit (I (-21 - o)) p) fun p => some p) ∧ SS K T t' M' l f' e' k' ∧ f < f' ∧ KX M' M) := by
  have t1 := h.1
  obtain ⟨b0, s0, m0, e0⟩ := isSign_tk 60 t1 h.2.2.2
  obtain ⟨b1, s1, m1, e1⟩ := isSign_tk 61 t1 h.2.2.2
  obtain ⟨b2, s2, m2, e2⟩ := isSign_tk 62 t1 h.2.2.2
  have h9 := t1.2.2.2.2.2.2.2.2.1
  have h138 : ∀ x : Int32, Mod_compileFactor_138 FN x M = Option.bind (Mod_scan M) fun p148 => Option.bind (Mod_compileValue p148) fun p152 => Option.bind (Mod_emit x p152) fun p157 => some p157 := fun x => by
    unfold Mod_compileFactor_138 Mod_compileFactor_143
    rw [asB_1, check_t, bind_s, advance_0 h.2.2.2]
  obtain ⟨t', M', f', e', k', a1, a2, a3, a4, a5⟩ := adv_ss h
  unfold QRead_readOrder mcF Mod_compileFactor_121
  rw [if_pos hq, s0, bind_s, m0, bind_s]
  cases b0
  case true =>
    right
    have := (e0 rfl).1
    rw [bif_t, bif_t, if_neg (by decide), h138, a2, bind_s, show (-20 : Int32) = I (-21 - (-1)) from rfl]
    unfold QRead_readOrder_42 QRead_readOrder_66
    rw [if_neg (by decide), a1, bind_s]
    exact ⟨-1, t', M', f', e', k', by omega, by omega, rfl, rfl, a3, by omega, a5⟩
  rw [bif_f, bif_f, s2, bind_s, m1, bind_s]
  cases b2
  case true =>
    right
    have hb1 : b1 = false := by
      cases b1
      · rfl
      · have h1 := (e1 rfl).2
        have h2 := (e2 rfl).2
        rw [h1] at h2
        exact absurd h2 (by decide)
    have := (e2 rfl).1
    rw [hb1, bif_t, bif_f, if_pos rfl, m2, bind_s, bif_t, h138, a2, bind_s, show (-22 : Int32) = I (-21 - 1) from rfl]
    unfold QRead_readOrder_42 QRead_readOrder_66
    rw [if_neg (by decide), a1, bind_s]
    exact ⟨1, t', M', f', e', k', by omega, by omega, rfl, rfl, a3, by omega, a5⟩
  rw [bif_f]
  unfold QRead_readOrder_42 QRead_readOrder_66
  rw [if_pos rfl, s1, bind_s]
  cases b1
  · left
    obtain ⟨N, n1, n2⟩ := flaw_ee h (c := 1) (by omega) (by omega)
    rw [bif_f, bif_f, if_pos rfl, m2, bind_s, bif_f, nmL_e]
    refine ⟨_, N, rfl, rfl, ?_, n2⟩
    unfold Mod_compileFactor_143
    rw [asB_0, show (1 : Int32) = I ((1 : Nat) : Int) from rfl, n1, bind_s, advance_e n2.ne, bind_s, compileValue_e n2.ne n2.val, bind_s, emit_e n2.ne, bind_s]
  · right
    have := (e1 rfl).1
    rw [bif_t, bif_t, if_neg (by decide), h138, a2, bind_s, a1, bind_s, show (-21 : Int32) = I (-21 - 0) from rfl]
    exact ⟨0, t', M', f', e', k', by omega, by omega, rfl, rfl, a3, by omega, a5⟩
end CMP
