section READX
variable {t : ToksV} {T S R : List Nat} {k N : Nat}
/-- the reader's buffer holds this text -/
def TBq (t : ToksV) (T : List Nat) : Prop := T.length ≤ 599 ∧ Toks_limit t = I (T.length : Int) ∧ (∀ q, byq T q < 128) ∧ ∀ q, q < T.length → Toks_bytes t q = I (byq T q : Int)
/-- the reader stands ahead of R -/
def AT (t : ToksV) (T R : List Nat) : Prop := TBq t T ∧ ∃ P : List Nat, T = P ++ R ∧ Toks_to t = I (P.length : Int)
/-- the reader has S, of kind k, in hand; R is what is left -/
def RD (t : ToksV) (T : List Nat) (k : Nat) (S R : List Nat) (N : Nat) : Prop := TBq t T ∧ ∃ P : List Nat, T = P ++ (S ++ R) ∧ Toks_from t = I (P.length : Int) ∧ Toks_to t = I ((P.length + S.length : Nat) : Int) ∧ Toks_kind t = I (k : Int) ∧ Toks_number t = I (N : Int)
theorem RD.rest (h : RD t T k S R N) : AT t T R := by
  obtain ⟨a, P, e, _, c, _⟩ := h
  exact ⟨a, P ++ S, by rw [e, List.append_assoc], by rw [c, List.length_append]⟩
theorem byq_at (P R : List Nat) (c : Nat) : byq (P ++ c :: R) P.length = c := by
  rw [byq_app, if_neg (Nat.lt_irrefl _), Nat.sub_self]
  rfl
theorem byq_at2 (P S R : List Nat) (c : Nat) : byq (P ++ (S ++ c :: R)) (P.length + S.length) = c := by
  rw [← List.append_assoc, ← List.length_append, byq_at]
theorem ts_f (x : Int32) : Toks_from (Toks_set_number (Toks_set_from t x) 0) = x := rfl
theorem ts_l (x : Int32) : Toks_limit (Toks_set_number (Toks_set_from t x) 0) = Toks_limit t := rfl
theorem ts_b (x : Int32) : Toks_bytes (Toks_set_number (Toks_set_from t x) 0) = Toks_bytes t := rfl
theorem len_at (P R : List Nat) (c : Nat) : (P ++ c :: R).length = P.length + (R.length + 1) := by rw [List.length_append]; rfl
theorem len_at2 (P S R : List Nat) (c : Nat) : (P ++ (S ++ c :: R)).length = P.length + S.length + (R.length + 1) := by rw [← List.append_assoc, len_at, List.length_append]
/-- a blank -/
theorem at_skip (h : AT t T (32 :: R)) (m : Nat) : ∃ t', Toks_advance_0 (m + 1) t = Toks_advance_0 m t' ∧ AT t' T R := by
  obtain ⟨⟨a1, a2, a3, a4⟩, P, e, p⟩ := h
  subst e
  have hl := len_at P R 32
  refine ⟨Toks_set_to t (Toks_to t + 1), ?_, ⟨⟨a1, a2, a3, a4⟩, P ++ [32], by rw [List.append_assoc]; rfl, ?_⟩⟩
  · rw [Toks_advance_0, p, if_neg (neg_f (by omega)), a2, if_neg (I_le_f (by omega) (by omega) (by omega)), gd_I (by omega) (by omega) (by omega), I_clamp P.length (by omega), a4 P.length (by omega), byq_at, if_pos (by decide), nmL_e]
  · show Toks_to t + 1 = _
    rw [p, I_succ, List.length_append]
    rfl
/-- no blank -/
theorem at_go {c : Nat} (h : AT t T (c :: R)) (h1 : c ≠ 32) (h2 : c ≠ 10) (m : Nat) : Toks_advance_0 (m + 1) t = Toks_advance_107 (I (kdN c : Int)) (Toks_set_number (Toks_set_from t (Toks_to t)) 0) := by
  obtain ⟨⟨a1, a2, a3, a4⟩, P, e, p⟩ := h
  subst e
  have hl := len_at P R c
  have hc := a3 P.length
  rw [byq_at] at hc
  have hby := a4 P.length (by omega)
  rw [byq_at] at hby
  rw [Toks_advance_0, p, if_neg (neg_f (by omega)), a2, if_neg (I_le_f (by omega) (by omega) (by omega)), gd_I (by omega) (by omega) (by omega), I_clamp P.length (by omega), hby, if_neg (show ¬ I (c : Int) = 32 from I_ne (b := 32) (by omega) (by omega) (by omega) (by omega) (by omega)), if_neg (show ¬ I (c : Int) = 10 from I_ne (b := 10) (by omega) (by omega) (by omega) (by omega) (by omega))]
  unfold Toks_advance_59
  rw [nmL_e, nmL_e, ts_f, ts_l, ts_b, p, if_neg (neg_f (by omega)), a2, if_neg (I_le_f (by omega) (by omega) (by omega)), gd_I (by omega) (by omega) (by omega), I_clamp P.length (by omega), hby, kind_s (by omega), bind_s]
/-- the end -/
theorem at_end (h : AT t T []) (m : Nat) : ∃ t', Toks_advance_0 (m + 1) t = some t' ∧ RD t' T 0 [] [] 0 := by
  obtain ⟨⟨a1, a2, a3, a4⟩, P, e, p⟩ := h
  rw [List.append_nil] at e
  subst e
  obtain ⟨n, hn⟩ : ∃ n, FU = n + 1 := ⟨FU - 1, by unfold FU; omega⟩
  refine ⟨Toks_set_kind (Toks_set_number (Toks_set_from t (Toks_to t)) 0) 0, ?_, ⟨a1, a2, a3, a4⟩, T, by rw [List.append_nil, List.append_nil], p, ?_, rfl, rfl⟩
  · rw [Toks_advance_0, p, if_neg (neg_f (by omega)), a2, if_pos (I_le_t (by omega) (by omega) (by omega))]
    unfold Toks_advance_59
    rw [nmL_e, nmL_e, ts_f, ts_l, p, if_neg (neg_f (by omega)), a2, if_pos (I_le_t (by omega) (by omega) (by omega))]
    unfold Toks_advance_106 Toks_advance_107
    rw [nmL_e, if_neg (show ¬ Toks_kind (Toks_set_kind (Toks_set_number (Toks_set_from t (I (T.length : Int))) 0) 0) = 3 by show ¬ (0 : Int32) = 3; decide), hn, Toks_advance_129]
    rw [show Toks_to (Toks_set_kind (Toks_set_number (Toks_set_from t (I (T.length : Int))) 0) 0) = Toks_to t from rfl, show Toks_limit (Toks_set_kind (Toks_set_number (Toks_set_from t (I (T.length : Int))) 0) 0) = Toks_limit t from rfl, p, if_neg (neg_f (by omega)), a2, if_pos (I_le_t (by omega) (by omega) (by omega))]
  · show Toks_to t = _
    rw [p]
    rfl
theorem kd2_d {c : Nat} (h : kdN c = 2) : 48 ≤ c ∧ c ≤ 57 := by
  cases hd : isD c
  · exact absurd h (kd_2 hd)
  · exact of_decide_eq_true hd
/-- what a run of one kind ends at -/
def Stop (k : Nat) (R : List Nat) : Prop := ∀ c R', R = c :: R' → kdN c ≠ k
theorem Stop.nil : Stop k [] := fun c R' h => nomatch h
theorem Stop.cons {c : Nat} (h : kdN c ≠ k) : Stop k (c :: R) := fun c' R' e => by
  have := (List.cons.inj e).1
  rw [← this]
  exact h
/-- one more byte of the same kind -/
theorem rd_step {c : Nat} (h : RD t T k S (c :: R) N) (hk : kdN c = k) (h12 : k = 1 ∨ k = 2) (hN : N ≤ 999) (m : Nat) : ∃ t', Toks_advance_129 (m + 1) t = Toks_advance_129 m t' ∧ RD t' T k (S ++ [c]) R (if k = 2 then N * 10 + (c - 48) else N) := by
  obtain ⟨⟨a1, a2, a3, a4⟩, P, e, z3, z4, z5, z6⟩ := h
  subst e
  have hl := len_at2 P S R c
  have hc := a3 (P.length + S.length)
  rw [byq_at2] at hc
  have hby := a4 (P.length + S.length) (by omega)
  rw [byq_at2] at hby
  have hto : I ((P.length + S.length : Nat) : Int) + 1 = I ((P.length + (S ++ [c]).length : Nat) : Int) := by
    rw [I_succ, List.length_append]
    rfl
  obtain rfl | rfl := h12
  · refine ⟨Toks_set_to t (Toks_to t + 1), ?_, ⟨a1, a2, a3, a4⟩, P, by rw [List.append_assoc]; rfl, z3, ?_, z5, ?_⟩
    · rw [Toks_advance_129, z4, if_neg (neg_f (by omega)), a2, if_neg (I_le_f (by omega) (by omega) (by omega)), gd_I (by omega) (by omega) (by omega), I_clamp (P.length + S.length) (by omega), hby, kind_s (by omega), bind_s, hk, z5, if_pos rfl, if_neg (by decide), nmL_e]
    · show Toks_to t + 1 = _
      rw [z4, hto]
    · rw [if_neg (by decide)]
      exact z6
  · have hd := kd2_d hk
    have hnum : I (N : Int) * 10 + I (c : Int) - 48 = I ((N * 10 + (c - 48) : Nat) : Int) := by
      rw [show (10 : Int32) = I 10 from rfl, show (48 : Int32) = I 48 from rfl, I_mul, I_add, I_sub]
      congr 1
      omega
    refine ⟨Toks_set_to (Toks_set_number t (Toks_number t * 10 + I (c : Int) - 48)) (Toks_to t + 1), ?_, ⟨a1, a2, a3, a4⟩, P, by rw [List.append_assoc]; rfl, z3, ?_, z5, ?_⟩
    · rw [Toks_advance_129, z4, if_neg (neg_f (by omega)), a2, if_neg (I_le_f (by omega) (by omega) (by omega)), gd_I (by omega) (by omega) (by omega), I_clamp (P.length + S.length) (by omega), hby, kind_s (by omega), bind_s, hk, z5, if_pos rfl, if_pos (by decide), z6, if_neg (show ¬ (9999 : Int32) < I (N : Int) from I_lt_f (a := 9999) (by omega) (by omega) (by omega)), nmL_e, nmL_e]
      rw [show Toks_to (Toks_set_number t (I (N : Int) * 10 + I (c : Int) - 48)) = Toks_to t from rfl, z4]
    · show Toks_to t + 1 = _
      rw [z4, hto]
    · rw [if_pos rfl]
      show Toks_number t * 10 + I (c : Int) - 48 = _
      rw [z6, hnum]
theorem rd_stop (h : RD t T k S R N) (h12 : k = 1 ∨ k = 2) (hs : Stop k R) (m : Nat) : Toks_advance_129 (m + 1) t = some t := by
  obtain ⟨⟨a1, a2, a3, a4⟩, P, e, z3, z4, z5, z6⟩ := h
  cases R with
  | nil =>
    have hl : T.length = P.length + S.length := by rw [e, List.append_nil, List.length_append]
    rw [Toks_advance_129, z4, if_neg (neg_f (by omega)), a2, if_pos (I_le_t (by omega) (by omega) (by omega))]
  | cons c R =>
    subst e
    have hl := len_at2 P S R c
    have hc := a3 (P.length + S.length)
    rw [byq_at2] at hc
    have hby := a4 (P.length + S.length) (by omega)
    rw [byq_at2] at hby
    rw [Toks_advance_129, z4, if_neg (neg_f (by omega)), a2, if_neg (I_le_f (by omega) (by omega) (by omega)), gd_I (by omega) (by omega) (by omega), I_clamp (P.length + S.length) (by omega), hby, kind_s (by omega), bind_s, z5, if_neg (kd_ne (hs c R rfl) (by omega))]
theorem rd_word : ∀ (S' S : List Nat) (t : ToksV) (m : Nat), RD t T 1 S (S' ++ R) 0 → (∀ b ∈ S', kdN b = 1) → Stop 1 R → S'.length < m → ∃ t', Toks_advance_129 m t = some t' ∧ RD t' T 1 (S ++ S') R 0 := by
  intro S'
  induction S' with
  | nil =>
    intro S t m h _ hs hm
    obtain ⟨m, rfl⟩ : ∃ q, m = q + 1 := ⟨m - 1, by omega⟩
    exact ⟨t, rd_stop h (Or.inl rfl) hs m, by rw [List.append_nil]; exact h⟩
  | cons b S' ih =>
    intro S t m h hb hs hm
    obtain ⟨m, rfl⟩ : ∃ q, m = q + 1 := ⟨m - 1, by omega⟩
    have hm2 : S'.length + 1 < m + 1 := hm
    obtain ⟨t1, e1, e2⟩ := rd_step (R := S' ++ R) h (hb b List.mem_cons_self) (Or.inl rfl) (by omega) m
    rw [if_neg (by decide)] at e2
    obtain ⟨t2, e3, e4⟩ := ih (S ++ [b]) t1 m e2 (fun c hc => hb c (List.mem_cons_of_mem _ hc)) hs (by omega)
    rw [List.append_assoc] at e4
    exact ⟨t2, e1.trans e3, e4⟩
/-- the token's beginning -/
theorem rd_begin {c : Nat} (h : AT t T (c :: R)) (h12 : kdN c = 1 ∨ kdN c = 2) (m : Nat) : ∃ t', Toks_advance_0 (m + 1) t = Toks_advance_129 FU t' ∧ RD t' T (kdN c) [] (c :: R) 0 := by
  have hb : kdN c ≠ 3 := by omega
  have h32 : c ≠ 32 := fun e => hb (by rw [e]; rfl)
  have h10 : c ≠ 10 := fun e => hb (by rw [e]; rfl)
  refine ⟨Toks_set_kind (Toks_set_number (Toks_set_from t (Toks_to t)) 0) (I (kdN c : Int)), ?_, ?_⟩
  · rw [at_go h h32 h10]
    unfold Toks_advance_107
    rw [nmL_e, if_neg (show ¬ Toks_kind (Toks_set_kind (Toks_set_number (Toks_set_from t (Toks_to t)) 0) (I (kdN c : Int))) = 3 from fun e => by
      have e2 : I (kdN c : Int) = I ((3 : Nat) : Int) := e
      exact kd_ne hb (by omega) e2)]
  · obtain ⟨a, P, e, p⟩ := h
    exact ⟨a, P, by rw [List.nil_append]; exact e, p, p, rfl, rfl⟩
theorem word0 (hS : S ≠ []) (h : AT t T (S ++ R)) (hb : ∀ b ∈ S, kdN b = 1) (hs : Stop 1 R) (m : Nat) (hl : S.length < 600) : ∃ t', Toks_advance_0 (m + 1) t = some t' ∧ RD t' T 1 S R 0 := by
  cases S with
  | nil => exact absurd rfl hS
  | cons c S =>
    have hc := hb c List.mem_cons_self
    obtain ⟨t1, e1, e2⟩ := rd_begin (R := S ++ R) h (Or.inl hc) m
    rw [hc] at e2
    obtain ⟨t2, e3, e4⟩ := rd_word (T := T) (R := R) (c :: S) [] t1 FU e2 hb hs (by unfold FU; omega)
    exact ⟨t2, e1.trans e3, e4⟩
theorem kd_dig {x : Nat} (h : x < 10) : kdN (48 + x) = 2 := kd_D (D_nL (decide_eq_true (by omega))) (decide_eq_true (by omega))
theorem num0 {x : Nat} (hx : x < 100) (h : AT t T (dgt x ++ R)) (hs : Stop 2 R) (m : Nat) : ∃ t', Toks_advance_0 (m + 1) t = some t' ∧ RD t' T 2 (dgt x) R x := by
  obtain ⟨n, hn⟩ : ∃ n, FU = n + 1 + 1 + 1 := ⟨FU - 3, by unfold FU; omega⟩
  unfold dgt at h ⊢
  by_cases c : x < 10
  · rw [if_pos c] at h ⊢
    have hk := kd_dig c
    obtain ⟨t1, e1, e2⟩ := rd_begin (R := R) h (Or.inr hk) m
    rw [hk] at e2
    obtain ⟨t2, e3, e4⟩ := rd_step e2 hk (Or.inr rfl) (by omega) (n + 1 + 1)
    rw [if_pos rfl, show 0 * 10 + (48 + x - 48) = x by omega] at e4
    refine ⟨t2, ?_, e4⟩
    rw [e1, hn, e3]
    exact rd_stop e4 (Or.inr rfl) hs _
  · rw [if_neg c] at h ⊢
    have hk := kd_dig (show x / 10 < 10 by omega)
    have hk2 := kd_dig (show x % 10 < 10 by omega)
    obtain ⟨t1, e1, e2⟩ := rd_begin (R := (48 + x % 10) :: R) h (Or.inr hk) m
    rw [hk] at e2
    obtain ⟨t2, e3, e4⟩ := rd_step e2 hk (Or.inr rfl) (by omega) (n + 1 + 1)
    rw [if_pos rfl] at e4
    obtain ⟨t3, e5, e6⟩ := rd_step e4 hk2 (Or.inr rfl) (by omega) (n + 1)
    rw [if_pos rfl, show (0 * 10 + (48 + x / 10 - 48)) * 10 + (48 + x % 10 - 48) = x by omega] at e6
    refine ⟨t3, ?_, e6⟩
    rw [e1, hn, e3, e5]
    exact rd_stop e6 (Or.inr rfl) hs _
theorem sign0 (h : AT t T (59 :: R)) (m : Nat) : ∃ t', Toks_advance_0 (m + 1) t = some t' ∧ RD t' T 3 [59] R 0 := by
  refine ⟨Toks_set_to (Toks_set_kind (Toks_set_number (Toks_set_from t (Toks_to t)) 0) (I (kdN 59 : Int))) (Toks_to t + 1), ?_, ?_⟩
  · rw [at_go h (by decide) (by decide)]
    unfold Toks_advance_107
    rw [nmL_e, if_pos (show Toks_kind (Toks_set_kind (Toks_set_number (Toks_set_from t (Toks_to t)) 0) (I (kdN 59 : Int))) = 3 by show I ((kdN 59 : Nat) : Int) = 3; decide), nmL_e]
    rfl
  · obtain ⟨a, P, e, p⟩ := h
    refine ⟨a, P, e, p, ?_, rfl, rfl⟩
    show Toks_to t + 1 = _
    rw [p, I_succ]
    rfl
/-- the next token -/
theorem adv_w (hS : S ≠ []) (h : AT t T (S ++ R)) (hb : ∀ b ∈ S, kdN b = 1) (hs : Stop 1 R) (hl : S.length < 600) : ∃ t', Toks_advance t = some t' ∧ RD t' T 1 S R 0 := by
  obtain ⟨n, hn⟩ : ∃ n, FU = n + 1 := ⟨FU - 1, by unfold FU; omega⟩
  unfold Toks_advance
  rw [hn]
  exact word0 hS h hb hs n hl
theorem adv_bw (hS : S ≠ []) (h : AT t T (32 :: (S ++ R))) (hb : ∀ b ∈ S, kdN b = 1) (hs : Stop 1 R) (hl : S.length < 600) : ∃ t', Toks_advance t = some t' ∧ RD t' T 1 S R 0 := by
  obtain ⟨n, hn⟩ : ∃ n, FU = n + 1 + 1 := ⟨FU - 2, by unfold FU; omega⟩
  unfold Toks_advance
  rw [hn]
  obtain ⟨t1, e1, e2⟩ := at_skip h (n + 1)
  rw [e1]
  exact word0 hS e2 hb hs n hl
theorem adv_n {x : Nat} (hx : x < 100) (h : AT t T (dgt x ++ R)) (hs : Stop 2 R) : ∃ t', Toks_advance t = some t' ∧ RD t' T 2 (dgt x) R x := by
  obtain ⟨n, hn⟩ : ∃ n, FU = n + 1 := ⟨FU - 1, by unfold FU; omega⟩
  unfold Toks_advance
  rw [hn]
  exact num0 hx h hs n
theorem adv_bn {x : Nat} (hx : x < 100) (h : AT t T (32 :: (dgt x ++ R))) (hs : Stop 2 R) : ∃ t', Toks_advance t = some t' ∧ RD t' T 2 (dgt x) R x := by
  obtain ⟨n, hn⟩ : ∃ n, FU = n + 1 + 1 := ⟨FU - 2, by unfold FU; omega⟩
  unfold Toks_advance
  rw [hn]
  obtain ⟨t1, e1, e2⟩ := at_skip h (n + 1)
  rw [e1]
  exact num0 hx e2 hs n
theorem adv_s (h : AT t T (59 :: R)) : ∃ t', Toks_advance t = some t' ∧ RD t' T 3 [59] R 0 := by
  obtain ⟨n, hn⟩ : ∃ n, FU = n + 1 := ⟨FU - 1, by unfold FU; omega⟩
  unfold Toks_advance
  rw [hn]
  exact sign0 h n
theorem adv_e (h : AT t T []) : ∃ t', Toks_advance t = some t' ∧ RD t' T 0 [] [] 0 := by
  obtain ⟨n, hn⟩ : ∃ n, FU = n + 1 := ⟨FU - 1, by unfold FU; omega⟩
  unfold Toks_advance
  rw [hn]
  exact at_end h n
/-- the questions that the reader asks -/
theorem isEnd_t (h : RD t T 0 S R N) : Toks_isEnd t = some true := by
  obtain ⟨_, P, _, _, _, z5, _⟩ := h
  unfold Toks_isEnd
  rw [z5, if_pos (by decide)]
theorem isEnd_f (h : RD t T k S R N) (hk : 1 ≤ k) (h3 : k ≤ 3) : Toks_isEnd t = some false := by
  obtain ⟨_, P, _, _, _, z5, _⟩ := h
  unfold Toks_isEnd
  rw [z5, if_neg (show ¬ I (k : Int) = 0 from I_ne (b := 0) (by omega) (by omega) (by omega) (by omega) (by omega))]
theorem isNumber_t (h : RD t T 2 S R N) : Toks_isNumber t = some true := by
  obtain ⟨_, P, _, _, _, z5, _⟩ := h
  unfold Toks_isNumber
  rw [z5, if_pos (by decide)]
theorem isNumber_f (h : RD t T k S R N) (hk : k ≠ 2) (h3 : k ≤ 3) : Toks_isNumber t = some false := by
  obtain ⟨_, P, _, _, _, z5, _⟩ := h
  unfold Toks_isNumber
  rw [z5, if_neg (show ¬ I (k : Int) = 2 from I_ne (b := 2) (by omega) (by omega) (by omega) (by omega) (by omega))]
theorem isSign_t (h : RD t T 3 [59] R N) : Toks_isSign 59 t = some true := by
  obtain ⟨⟨a1, a2, a3, a4⟩, P, e, z3, _, z5, _⟩ := h
  have e' : T = P ++ 59 :: R := e
  subst e'
  have hl := len_at P R 59
  have hby := a4 P.length (by omega)
  rw [byq_at] at hby
  unfold Toks_isSign
  rw [z5, if_pos (by decide), z3, if_neg (neg_f (by omega)), if_neg (show ¬ (600 : Int32) ≤ I (P.length : Int) from I_le_f (a := 600) (by omega) (by omega) (by omega)), gd_I (by omega) (by omega) (by omega), I_clamp P.length (by omega), hby, if_pos (by decide)]
theorem isSign_f (h : RD t T k S R N) (hk : k ≠ 3) (h3 : k ≤ 3) : Toks_isSign 59 t = some false := by
  obtain ⟨_, P, _, _, _, z5, _⟩ := h
  unfold Toks_isSign
  rw [z5, if_neg (show ¬ I (k : Int) = 3 from I_ne (b := 3) (by omega) (by omega) (by omega) (by omega) (by omega))]
theorem number_is (h : RD t T k S R N) : Toks_number t = I (N : Int) := by
  obtain ⟨_, P, _, _, _, _, z6⟩ := h
  exact z6
theorem numberCode_t (h : RD t T 2 S R N) {lo hi : Int} (h0 : 0 ≤ lo) (h1 : lo ≤ N) (h2 : (N : Int) ≤ hi) (h3 : hi ≤ 2147483647) : Toks_numberCode (I lo) (I hi) t = some 0 := by
  have z6 := number_is h
  obtain ⟨_, P, _, _, _, z5, _⟩ := h
  unfold Toks_numberCode
  rw [z5, if_pos (by decide), z6, if_neg (I_lt_f (by omega) (by omega) (by omega)), if_pos (I_le_t (by omega) (by omega) (by omega))]
theorem isWord_k {i : Nat} (h : RD t T k S R N) (hk : k ≠ 1) (h3 : k ≤ 3) : Toks_isWord i t = some false := by
  obtain ⟨_, P, _, _, _, z5, _⟩ := h
  unfold Toks_isWord
  rw [z5, if_neg (show ¬ I (k : Int) = 1 from I_ne (b := 1) (by omega) (by omega) (by omega) (by omega) (by omega))]
theorem word_len (h : RD t T 1 S R N) : Toks_to t - Toks_from t = I (S.length : Int) := by
  obtain ⟨_, P, _, z3, z4, _, _⟩ := h
  rw [z3, z4, I_sub]
  congr 1
  omega
theorem rd_short (h : RD t T k S R N) : S.length ≤ 599 := by
  obtain ⟨⟨a1, _⟩, P, e, _⟩ := h
  rw [e, List.length_append, List.length_append] at a1
  omega
theorem isWord_l {i : Nat} (hok : stOK i = true) (h : RD t T 1 S R N) (hl : (stL i).length ≠ S.length) (hb : (stL i).length < 600) : Toks_isWord i t = some false := by
  have e := word_len h
  have hs := rd_short h
  obtain ⟨_, P, _, _, _, z5, _⟩ := h
  unfold Toks_isWord
  rw [z5, if_pos (by decide), gd_t hok, e, stLen_I, if_neg (I_ne (by omega) (by omega) (by omega) (by omega) (by omega))]
theorem isWord_c {i c : Nat} (hok : stOK i = true) (h : RD t T 1 (c :: S) R N) (hl : (stL i).length = S.length + 1) (hc : I (c : Int) ≠ (stL i).getD 0 0) : Toks_isWord i t = some false := by
  have e := word_len h
  have hs := rd_short h
  obtain ⟨⟨a1, a2, a3, a4⟩, P, e', z3, _, z5, _⟩ := h
  have e2 : T = P ++ c :: (S ++ R) := e'
  subst e2
  have hln := len_at P (S ++ R) c
  have hby := a4 P.length (by omega)
  rw [byq_at] at hby
  have hs2 : S.length + 1 ≤ 599 := hs
  obtain ⟨n, hn⟩ : ∃ n, FU = n + 1 := ⟨FU - 1, by unfold FU; omega⟩
  unfold Toks_isWord
  rw [z5, if_pos (by decide), gd_t hok, e, stLen_I, hl, if_pos (show I ((c :: S).length : Int) = I ((S.length + 1 : Nat) : Int) from rfl), hn, Toks_isWord_28, gd_t hok, stLen_I, hl]
  rw [show (0 : Int32) = I ((0 : Nat) : Int) from rfl, if_neg (I_le_f (by omega) (by omega) (by omega)), z3, I_add, show ((P.length : Nat) : Int) + ((0 : Nat) : Int) = (P.length : Int) by omega]
  rw [if_neg (show ¬ I (P.length : Int) < I ((0 : Nat) : Int) from neg_f (by omega)), if_neg (show ¬ (600 : Int32) ≤ I (P.length : Int) from I_le_f (a := 600) (by omega) (by omega) (by omega)), gd_I (by omega) (by omega) (by omega), gd_I (by omega) (by omega) (by omega), I_clamp P.length (by omega), hby, stCh_I i (by omega), if_neg hc]
theorem isWord_loop {i : Nat} (hok : stOK i = true) (hS : stL i = S.map fun b : Nat => I (b : Int)) (h : RD t T 1 S R N) : ∀ (B A : List Nat) (m : Nat), S = A ++ B → B.length < m → Toks_isWord_28 i t m (I (A.length : Int)) = some true := by
  have hs := rd_short h
  have hlen : (stL i).length = S.length := by rw [hS, List.length_map]
  obtain ⟨⟨a1, a2, a3, a4⟩, P, e, z3, _, z5, _⟩ := h
  intro B
  induction B with
  | nil =>
    intro A m hA hm
    obtain ⟨m, rfl⟩ : ∃ q, m = q + 1 := ⟨m - 1, by omega⟩
    rw [List.append_nil] at hA
    subst hA
    rw [Toks_isWord_28, gd_t hok, stLen_I, hlen, if_pos (I_le_t (by omega) (by omega) (by omega))]
  | cons b B ih =>
    intro A m hA hm
    obtain ⟨m, rfl⟩ : ∃ q, m = q + 1 := ⟨m - 1, by omega⟩
    have hm2 : B.length + 1 < m + 1 := hm
    have hSl : S.length = A.length + (B.length + 1) := by rw [hA, List.length_append]; rfl
    have hTl : T.length = P.length + (S.length + R.length) := by rw [e, List.length_append, List.length_append]
    have hb : byq T (P.length + A.length) = b := by
      rw [e, hA, List.append_assoc]
      exact byq_at2 P A (B ++ R) b
    have hby := a4 (P.length + A.length) (by omega)
    rw [hb] at hby
    have hch : stCh i (I (A.length : Int)) = I (b : Int) := by
      rw [stCh_I i (by omega), hS, List.getD_eq_getElem?_getD, List.getElem?_map, hA, List.getElem?_append_right (Nat.le_refl _), Nat.sub_self]
      rfl
    have hr := ih (A ++ [b]) m (by rw [hA, List.append_assoc]; rfl) (by omega)
    rw [List.length_append] at hr
    rw [Toks_isWord_28, gd_t hok, stLen_I, hlen, if_neg (I_le_f (by omega) (by omega) (by omega)), z3, I_add, show ((P.length : Nat) : Int) + ((A.length : Nat) : Int) = ((P.length + A.length : Nat) : Int) by omega, if_neg (neg_f (by omega)), if_neg (show ¬ (600 : Int32) ≤ I ((P.length + A.length : Nat) : Int) from I_le_f (a := 600) (by omega) (by omega) (by omega)), gd_I (by omega) (by omega) (by omega), gd_I (by omega) (by omega) (by omega), I_clamp (P.length + A.length) (by omega), hby, hch, if_pos rfl, nmL_e, I_succ]
    exact hr
theorem isWord_t {i : Nat} (hok : stOK i = true) (hS : stL i = S.map fun b : Nat => I (b : Int)) (h : RD t T 1 S R N) : Toks_isWord i t = some true := by
  have e := word_len h
  have hs := rd_short h
  have hlen : (stL i).length = S.length := by rw [hS, List.length_map]
  have hL := isWord_loop hok hS h S [] FU rfl (by unfold FU; omega)
  obtain ⟨_, P, _, _, _, z5, _⟩ := h
  unfold Toks_isWord
  rw [z5, if_pos (by decide), gd_t hok, e, stLen_I, hlen, if_pos rfl]
  exact hL
/-- a semicolon is taken -/
theorem semi_q (h : RD t T 3 [59] R N) {t' : ToksV} (ha : Toks_advance t = some t') : HRead_readSemicolon t = some (0, t') := by
  unfold HRead_readSemicolon
  rw [isSign_t h, bind_s, cond_true, ha, bind_s]
/-- the reader begins -/
theorem begin_q {f : Nat} (hT : T.length ≤ 599) (hb : ∀ q, byq T q < 128) (hy : ∀ q, q < T.length → Toks_bytes t q = I (byq T q : Int)) : Toks_begin (I (T.length : Int)) t = Option.bind (Toks_advance (Toks_set_to (Toks_set_limit t (I (T.length : Int))) 0)) (fun p => some p) ∧ AT (Toks_set_to (Toks_set_limit t (I (T.length : Int))) 0) T T := by
  refine ⟨?_, ⟨hT, rfl, hb, hy⟩, [], rfl, rfl⟩
  unfold Toks_begin
  rw [show (600 : Int32) = I 600 from rfl, imin_I (by omega) (by omega) (by omega) (by omega), show min (T.length : Int) 600 = (T.length : Int) by omega, nmL_e, nmL_e]
end READX
