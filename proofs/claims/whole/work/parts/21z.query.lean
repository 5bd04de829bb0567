section QUERY
variable {K : KT} {T : TT} {l : Nat} {v : HouseV} {sv : SightV}
theorem q99_f {M N : ModelV} (x y : Int32) (h : Mod_check false 1 M = some N) : Mod_query_99 x y 0 M = Mod_query_99 x y 1 N := by
  unfold Mod_query_99
  rw [asB_0, asB_1, h, check_t]
theorem first_s {S : Nat} (hS : S < 2 ^ 12) : ∀ (m k n : Nat), 12 = k + m → m < n → (∀ r, r < k → S.testBit r = false) → ∃ a : Int, QRead_firstOf_2 (I (S : Int)) n (I (k : Int)) = some (I a) ∧ ((a = -1 ∧ ∀ r, r < 12 → S.testBit r = false) ∨ (∃ r : Nat, r < 12 ∧ a = (r : Int) ∧ S.testBit r = true ∧ ∀ i, i < r → S.testBit i = false)) := by
  intro m
  induction m with
  | zero =>
    intro k n hk hm hr
    obtain ⟨n, rfl⟩ : ∃ q, n = q + 1 := ⟨n - 1, by omega⟩
    rw [QRead_firstOf_2, I12, if_pos (I_le_t (by omega) (by omega) (by omega))]
    exact ⟨-1, rfl, Or.inl ⟨rfl, fun r h => hr r (by omega)⟩⟩
  | succ m ih =>
    intro k n hk hm hr
    obtain ⟨n, rfl⟩ : ∃ q, n = q + 1 := ⟨n - 1, by omega⟩
    rw [QRead_firstOf_2, I12, if_neg (I_le_f (by omega) (by omega) (by omega)), gwhas_s (by omega) (by omega), bind_s]
    cases hb : S.testBit k
    · rw [bif_f, nmL_e, I_succ]
      refine ih (k + 1) n (by omega) (by omega) fun r h => ?_
      by_cases c : r = k
      · rw [c]; exact hb
      · exact hr r (by omega)
    · rw [bif_t]
      exact ⟨k, rfl, Or.inr ⟨k, by omega, rfl, hb, hr⟩⟩
/-- the answer of a query: how many, or the first -/
def ansQ (many : Bool) (S R : Nat) (a : Int) : Prop := if many = true then a = ((cnt S.testBit R : Nat) : Int) else ((a = -1 ∧ ∀ r, r < R → S.testBit r = false) ∨ (∃ r : Nat, r < R ∧ a = (r : Int) ∧ S.testBit r = true ∧ ∀ i, i < r → S.testBit i = false))
theorem answer_s (hv : HOK v) {S : Nat} (hS : S < 2 ^ hR v) (many : Bool) (q : QReadV) (t : ToksV) (A B : Nat → Int32) : ∃ a q', QRead_readQuery_71 v sv (b2i many) (I (S : Int)) q t A B = some (QRead_error q, q', t, A, B) ∧ QRead_answer q' = I a ∧ ansQ many S (hR v) a := by
  have hR12 : hR v ≤ 12 := hv.1.2.2.1
  have hS12 : S < 2 ^ 12 := Nat.lt_of_lt_of_le hS (Nat.pow_le_pow_right (by omega) hR12)
  unfold QRead_readQuery_71
  cases many
  · obtain ⟨a, h1, h2⟩ := first_s hS12 12 0 FU (by omega) (by unfold FU; omega) (fun r h => absurd h (by omega))
    have h1' : QRead_firstOf (I (S : Int)) = some (I a) := h1
    rw [if_pos (show b2i false = 0 from rfl), h1', bind_s, nmL_e]
    refine ⟨a, _, rfl, rfl, ?_⟩
    unfold ansQ
    rw [if_neg (by decide)]
    rcases h2 with ⟨h3, h4⟩ | ⟨r, h3, h4, h5, h6⟩
    · exact Or.inl ⟨h3, fun r hr => h4 r (by omega)⟩
    · refine Or.inr ⟨r, ?_, h4, h5, h6⟩
      apply Classical.byContradiction
      intro hc
      rw [Nat.testBit_lt_two_pow (Nat.lt_of_lt_of_le hS (Nat.pow_le_pow_right (by omega) (by omega)))] at h5
      exact absurd h5 (by decide)
  · rw [if_neg (show ¬ b2i true = 0 by decide), bitCount_n hS (by omega), bind_s, nmL_e]
    refine ⟨_, _, rfl, rfl, ?_⟩
    unfold ansQ
    rw [if_pos rfl]
/-- what the model compiles -/
def qx (x1 : Int32) (M : ModelV) : Option (Int32 × ModelV) := Option.bind (Mod_isWord 52 M) fun p43 => nmL (b2i p43) fun (x2_46 : Int32) => if x2_46 = 0 then Option.bind (Mod_isWord 53 M) fun p56 => bif p56 then Mod_query_62 x1 x2_46 M else Mod_query_67 x1 x2_46 0 M else Mod_query_62 x1 x2_46 M
theorem compileTest_e {M : ModelV} (h : ¬ Model_error M = 0) (hv : ∃ x, Mod_value M = some x) (FM : nestMT) (hF : FM M = some M) : Mod_compileTest FM M = some M := by
  obtain ⟨n, hn⟩ : ∃ n, FU = n + 1 := ⟨FU - 1, rfl⟩
  unfold Mod_compileTest Mod_compileConjunction
  rw [hF, bind_s, hn, Mod_compileConjunction_4, accept_e h, bind_s, bif_f, bind_s, Mod_compileTest_4, accept_e h, bind_s, bif_f]
theorem factor_e {M : ModelV} (h : ¬ Model_error M = 0) (hv : ∃ x, Mod_value M = some x) (FM : nestMT) : Mod_compileFactor FM M = some M := by
  unfold Mod_compileFactor
  rw [isWord_e h, bind_s, bif_f, isSymbol_e h, bind_s, bif_f, compileValue_e h hv, bind_s]
  exact mcF_e h hv FM
/-- a query -/
theorem query_ss {t : ToksV} {M : ModelV} {f e k : Nat} (h : SS K T t M l f e k) (hl : l ≤ 200) (hv : HOK v) (hso : SOK sv v) (hc : Model_codeCount M = 0) (ho : Model_nested M = 0) (q : QReadV) (A B : Nat → Int32) (x1 : Int32) : (∃ (c : Nat) (q' : QReadV) (t' : ToksV) (A' B' : Nat → Int32) (N : ModelV) (x2 : Int32), 1 ≤ c ∧ c ≤ 4 ∧ QRead_readQuery q t v sv A B = some (I (c : Int), q', t', A', B') ∧ qx x1 M = Mod_query_99 x1 x2 1 N ∧ EE K T t' N c) ∨ (∃ (many : Bool) (S cc : Nat) (a : Int) (q' : QReadV) (t' : ToksV) (A' B' : Nat → Int32) (N : ModelV) (f' e' : Nat), QRead_readQuery q t v sv A B = some (0, q', t', A', B') ∧ qx x1 M = Mod_query_99 x1 (b2i (!many)) 1 N ∧ SS K T t' N l f' e' 0 ∧ QRead_answer q' = I a ∧ ansQ many S (hR v) a ∧ S < 2 ^ hR v ∧ Model_codeCount N = I (cc : Int) ∧ cc ≤ 200 ∧ PUSH (PVM v) (hR v) (Model_codes N) 0 cc (bv S)) := by
  have t1 := h.1
  have t4 := h.2.2.2
  unfold qx QRead_readQuery
  rw [nmL_e]
  have hTS := test_fs hl (conj_fs hl (factors (K := K) (T := T) hl hv hso 6 (by omega)))
  obtain ⟨t2, M2, f2, e2, k2, a1, a2, a3, a4, a5⟩ := adv_ss h
  have body : ∀ many : Bool, f < e → (∃ (c : Nat) (q' : QReadV) (t' : ToksV) (A' B' : Nat → Int32) (N : ModelV) (x2 : Int32), 1 ≤ c ∧ c ≤ 4 ∧ QRead_readQuery_33 v sv (b2i many) (QRead_set_error q 0) t A B = some (I (c : Int), q', t', A', B') ∧ Mod_query_62 x1 (b2i (!many)) M = Mod_query_99 x1 x2 1 N ∧ EE K T t' N c) ∨ (∃ (many' : Bool) (S cc : Nat) (a : Int) (q' : QReadV) (t' : ToksV) (A' B' : Nat → Int32) (N : ModelV) (f' e' : Nat), QRead_readQuery_33 v sv (b2i many) (QRead_set_error q 0) t A B = some (0, q', t', A', B') ∧ Mod_query_62 x1 (b2i (!many)) M = Mod_query_99 x1 (b2i (!many')) 1 N ∧ SS K T t' N l f' e' 0 ∧ QRead_answer q' = I a ∧ ansQ many' S (hR v) a ∧ S < 2 ^ hR v ∧ Model_codeCount N = I (cc : Int) ∧ cc ≤ 200 ∧ PUSH (PVM v) (hR v) (Model_codes N) 0 cc (bv S)) := by
    intro many hfe
    unfold QRead_readQuery_33 Mod_query_62 Mod_query_67
    rw [asB_1, check_t, bind_s, advance_0 t4, a1, a2, bind_s, bind_s]
    rcases hTS (QRead_set_error q 0) t2 M2 A B f2 e2 k2 0 a3 rfl (a5.2.2.2.trans hc) (by omega) (a5.2.1.trans ho) with ⟨c3, x, q', t', A', B', M', r1, r2, r3, r4⟩ | ⟨S, q', t', A', B', M', f', e', k', cc', r1, r2, r3, r4, r5, r6, r7, r8, r9, r10, r11⟩
    · left
      have r1' : QRead_readTest (nestQ 7) 0 (QRead_set_error q 0) t2 v sv A B = some (x, q', t', A', B') := r1
      have r2' : Mod_compileTest (nestM 7) M2 = some M' := r2
      have hne : ¬ QRead_error q' = 0 := by rw [r3]; exact r4.c0
      rw [r1', bind_s]
      dsimp only
      rw [if_neg hne, r2', bind_s, if_neg r4.ne]
      have tot : ∃ q2, QRead_readQuery_71 v sv (b2i many) x q' t' A' B' = some (QRead_error q', q2, t', A', B') := by
        unfold QRead_readQuery_71
        cases many
        · have hf : ∃ y, QRead_firstOf x = some y := by
            have hh : ∀ z : Int32, ∃ b, GW_has x z = some b := fun z => by
              unfold GW_has
              split <;> exact ⟨_, rfl⟩
            have key : ∀ (m k n : Nat), 12 = k + m → m < n → ∃ y, QRead_firstOf_2 x n (I (k : Int)) = some y := by
              intro m
              induction m with
              | zero =>
                intro k n hk hm
                obtain ⟨n, rfl⟩ : ∃ q, n = q + 1 := ⟨n - 1, by omega⟩
                rw [QRead_firstOf_2, I12, if_pos (I_le_t (by omega) (by omega) (by omega))]
                exact ⟨_, rfl⟩
              | succ m ih =>
                intro k n hk hm
                obtain ⟨n, rfl⟩ : ∃ q, n = q + 1 := ⟨n - 1, by omega⟩
                obtain ⟨b, hb⟩ := hh (I (k : Int))
                rw [QRead_firstOf_2, I12, if_neg (I_le_f (by omega) (by omega) (by omega)), hb, bind_s]
                cases b
                · rw [bif_f, nmL_e, I_succ]
                  exact ih (k + 1) n (by omega) (by omega)
                · rw [bif_t]; exact ⟨_, rfl⟩
            exact key 12 0 FU (by omega) (by unfold FU; omega)
          obtain ⟨y, hy⟩ := hf
          rw [if_pos (show b2i false = 0 from rfl), hy, bind_s, nmL_e]
          exact ⟨_, rfl⟩
        · have hb : ∃ y, J_bitCount x = some y := by
            unfold J_bitCount
            exact ⟨_, rfl⟩
          obtain ⟨y, hy⟩ := hb
          rw [if_neg (show ¬ b2i true = 0 by decide), hy, bind_s, nmL_e]
          exact ⟨_, rfl⟩
      obtain ⟨q2, hq2⟩ := tot
      rw [hq2, r3]
      exact ⟨c3, q2, t', A', B', M', _, r4.2.2.2.1, r4.2.2.2.2.1, rfl, rfl, r4⟩
    · have r1' : QRead_readTest (nestQ 7) 0 (QRead_set_error q 0) t2 v sv A B = some (I (S : Int), q', t', A', B') := r1
      have r2' : Mod_compileTest (nestM 7) M2 = some M' := r2
      have hfl := f_le r5
      rw [r1', bind_s]
      dsimp only
      rw [if_pos r3, isEnd_tk r5.1, bind_s, r2', bind_s, if_pos r5.2.2.2]
      by_cases ck : k' = 0
      · right
        subst ck
        rw [decide_eq_true rfl, bif_t, if_pos ((km0 r5.1).mpr rfl)]
        obtain ⟨a, q2, b1, b2, b3⟩ := answer_s (sv := sv) hv r4 many q' t' A' B'
        rw [b1, r3]
        exact ⟨many, S, cc', a, q2, t', A', B', M', f', e', rfl, rfl, r5, b2, b3, r4, r7, by omega, r11⟩
      · left
        obtain ⟨N, m1, m2⟩ := flaw_ee r5 (c := 1) (by omega) (by omega)
        rw [decide_eq_false ck, bif_f, nmL_e, if_neg fun z => ck ((km0 r5.1).mp z)]
        obtain ⟨a, q2, b1, b2, b3⟩ := answer_s (sv := sv) hv r4 many (QRead_set_error q' 1) t' A' B'
        rw [b1]
        exact ⟨1, q2, t', A', B', N, _, by omega, by omega, rfl, q99_f _ _ m1, m2⟩
  rcases word_ss h (i := 16) (j := 53) st16 (by decide) (by decide) (by decide) with ⟨w1, w2, -⟩ | ⟨-, -, -, -, -, w1, w2, -, -, -, -, wf, -, -, -, wl⟩
  · rw [w1, bind_s, nmL_e, if_pos (show b2i false = 0 from rfl)]
    rcases word_ss h (i := 17) (j := 52) st17 (by decide) (by decide) (by decide) with ⟨w3, w4, -⟩ | ⟨-, -, -, -, -, w3, w4, -, -, -, -, wf, -⟩
    · left
      obtain ⟨N, m1, m2⟩ := flaw_ee h (c := 1) (by omega) (by omega)
      rw [w3, bind_s, bif_f, w4, bind_s, nmL_e, if_pos (show b2i false = 0 from rfl), w2, bind_s, bif_f]
      refine ⟨1, _, t, A, B, N, b2i false, by omega, by omega, rfl, ?_, m2⟩
      unfold Mod_query_67
      rw [asB_0, show (1 : Int32) = I ((1 : Nat) : Int) from rfl, m1, bind_s, advance_e m2.ne, bind_s, compileTest_e m2.ne m2.val (nestM 7) (factor_e m2.ne m2.val (nestM 6)), bind_s, if_neg m2.ne]
      rfl
    · rw [w3, bind_s, bif_t, w4, bind_s, nmL_e, if_neg (show ¬ b2i true = 0 by decide)]
      exact body false wf
  · -- both words cannot stand here
    have w4 : Mod_isWord 52 M = some false := by
      rcases word_ss h (i := 17) (j := 52) st17 (by decide) (by decide) (by decide) with ⟨-, w4, -⟩ | ⟨-, -, -, -, -, -, -, -, -, -, -, -, -, -, -, wl2⟩
      · exact w4
      · exfalso
        rw [show (stL 16).length = 4 by decide] at wl
        rw [show (stL 17).length = 5 by decide] at wl2
        omega
    rw [w1, bind_s, nmL_e, if_neg (show ¬ b2i true = 0 by decide), w4, bind_s, nmL_e, if_pos (show b2i false = 0 from rfl), w2, bind_s, bif_t]
    exact body true wf
/-- the compiled test at a room -/
theorem holds_m (hv : HOK v) {N : ModelV} {cc S r : Nat} (hp : PVM v N) (hc : Model_codeCount N = I (cc : Int)) (hcc : cc ≤ 200) (hP : PUSH (PVM v) (hR v) (Model_codes N) 0 cc (bv S)) (hr : r < hR v) : ∃ N', Mod_holdsFor (I (r : Int)) N = some (S.testBit r, N') ∧ PVM v N' ∧ KS N' N := by
  obtain ⟨n, hn⟩ : ∃ n, FU = n + 1 + (cc - 0) := ⟨FU - 1 - cc, by unfold FU; omega⟩
  obtain ⟨N', p1, p2, p3, p4, p5⟩ := hP.2 N cc r 0 (n + 1) hp (fun _ _ _ => rfl) hc (Nat.le_refl _) hcc hr (Nat.le_refl _)
  have p5' : Mod_holdsFor (I (r : Int)) N = Mod_holdsFor_4 (I (r : Int)) (n + 1) (I ((0 + 1 : Nat) : Int)) (I (cc : Int)) N' := by
    unfold Mod_holdsFor
    rw [hn]
    exact p5
  refine ⟨N', ?_, p1, p2⟩
  rw [p5', Mod_holdsFor_4, p2.2.1, hc, if_pos (I_le_t (by omega) (by omega) (by omega)), gd_t (show inB (0 : Int32) 200 = true from rfl), show Int32.toNatClampNeg 0 = 0 from rfl, p4]
  unfold bv
  cases S.testBit r
  · rw [if_neg (by decide)]
  · rw [if_pos rfl, if_pos (by decide)]
end QUERY
