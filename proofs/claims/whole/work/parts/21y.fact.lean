section FACT2
variable {K : KT} {T : TT} {l : Nat} {v : HouseV} {sv : SightV}
theorem EE.nested {t : ToksV} {M : ModelV} {c : Nat} (h : EE K T t M c) (x : Int32) : EE K T t (Model_set_nested M x) c := by
  obtain ⟨h1, h2, h3, h4, h5, h6, y, h7⟩ := h
  exact ⟨h1, (kp_nested _ _).trans h2, (Mo_error_nested _ _).trans h3, h4, h5, (Mo_errorAt_nested _ _).trans h6, y, (value_c (kpV_nested _ _)).trans h7⟩
theorem SS.nested {t : ToksV} {M : ModelV} {f e k : Nat} (h : SS K T t M l f e k) (x : Int32) : SS K T t (Model_set_nested M x) l f e k := ⟨h.1.c (kpV_nested _ _), h.2.1, (kp_nested _ _).trans h.2.2.1, (Mo_error_nested _ _).trans h.2.2.2⟩
/-- a comparison -/
theorem plain_ss (hl : l ≤ 200) (hv : HOK v) (hso : SOK sv v) {o : Nat} (FN : nestMT) {q : QReadV} {t : ToksV} {M : ModelV} {f e k cc : Nat} (h : SS K T t M l f e k) (hq : QRead_error q = 0) (hc : Model_codeCount M = I (cc : Int)) (hcc : cc ≤ f) (ho : Model_nested M = I (o : Int)) (A B : Nat → Int32) : QR K T l v o (f + 1) f cc cc M (Option.bind (QRead_readValues q t v sv A) fun p41 => Option.bind (QRead_readOrder p41.1 p41.2.1) fun p45 => Option.bind (QRead_readValues p45.2.1 p45.2.2 v sv B) fun p57 => Option.bind (QRead_compareRows p45.1 p57.1 v p41.2.2 p57.2.2) fun p64 => some (p64, p57.1, p57.2.1, p41.2.2, p57.2.2)) (Option.bind (Mod_compileValue M) (mcF FN)) := by
  rcases value_ss h hl hv hso hq hc hcc A with ⟨c, q1, A1, M1, a1, a2, a3, a4⟩ | ⟨y, t1, A1, M1, f1, e1, k1, a1, a2, a3, a4, a5, a6, a7, a8, a9, a10⟩
  · left
    have hne : ¬ QRead_error q1 = 0 := by rw [a2]; exact a4.c0
    have hro : QRead_readOrder q1 t = some (0, q1, t) := by unfold QRead_readOrder; rw [if_neg hne]
    obtain ⟨x, hx⟩ := cmp_tot hv.1 0 q1 A1 B
    rw [a1, bind_s]
    dsimp only
    rw [hro, bind_s]
    dsimp only
    rw [readValues_e hne, bind_s]
    dsimp only
    rw [hx, bind_s, a3, bind_s, mcF_e a4.ne a4.val]
    exact ⟨c, x, q1, t, A1, B, M1, rfl, rfl, a2, a4⟩
  · rw [a1, bind_s]
    dsimp only
    rw [a4, bind_s]
    rcases order_ss a5 hq FN with ⟨q2, M2, b1, b2, b3, b4⟩ | ⟨od, t2, M2, f2, e2, k2, b1, b2, b3, b4, b5, b6, b7⟩
    · left
      have hne : ¬ QRead_error q2 = 0 := by rw [b2]; decide
      obtain ⟨x, hx⟩ := cmp_tot hv.1 0 q2 A1 B
      rw [b1, bind_s]
      dsimp only
      rw [readValues_e hne, bind_s]
      dsimp only
      rw [hx, bind_s, b3]
      exact ⟨1, x, q2, t1, A1, B, M2, rfl, rfl, b2, b4⟩
    · rw [b3, bind_s]
      dsimp only
      rw [b4]
      rcases value_ss b5 hl hv hso hq (b7.2.2.2.trans a7) (by omega) B with ⟨c, q3, B3, M3, c1, c2, c3, c4⟩ | ⟨z, t3, B3, M3, f3, e3, k3, c1, c2, c3, c4, c5, c6, c7, c8, c9, c10⟩
      · left
        obtain ⟨x, hx⟩ := cmp_tot hv.1 (I od) q3 A1 B3
        rw [c1, bind_s]
        dsimp only
        rw [hx, bind_s, c3, bind_s, emit_e c4.ne, bind_s]
        exact ⟨c, x, q3, t2, A1, B3, M3, rfl, rfl, c2, c4⟩
      · right
        have hfl := f_le c5
        obtain ⟨N, n1, n2, n3, n4, n5⟩ := emit_ss c5 c7 (by omega) (I (-21 - od))
        rw [c1, bind_s]
        dsimp only
        rw [cmp_s hv.1 b1 b2 q a2 c2 a3 c3, bind_s, c4, bind_s, n1, bind_s]
        refine ⟨msk (fun r => ordB od (y r) (z r)) (hR v), q, t3, A1, B3, N, f3, e3, k3, cc + 1 + 1 + 1, rfl, rfl, hq, msk_lt _ _, n2, by omega, n3, by omega, n5.trans (c8.trans (b7.2.1.trans (a8.trans ho))), fun i hi => ?_, ?_⟩
        · rw [n4, upd_n (by omega), c9 i (by omega), b7.2.2.1, a9 i hi]
        · refine push_op pvm_set (a10.congr (fun i i1 i2 => ?_) (fun _ _ => rfl)) (c10.congr (fun i i1 i2 => ?_) (fun _ _ => rfl)) (o := -21 - od) (by omega) (by omega) (by omega) (by rw [n4, upd_i]) fun r hr => ?_
          · rw [n4, upd_n (by omega), c9 i (by omega), b7.2.2.1]
          · rw [n4, upd_n (by omega)]
          · have h1 := a3 r hr
            have h2 := c3 r hr
            rw [op_cmp b1 b2 h1.1 h1.2 h2.1 h2.2]
            unfold bv
            rw [msk_bit, decide_eq_true hr, Bool.true_and]
/-- a factor -/
theorem factor_of (hl : l ≤ 200) (hv : HOK v) (hso : SOK sv v) {o : Nat} (ho6 : o ≤ 6) {FQ : nestQT} {FM : nestMT} (hF : o < 6 → FS K T l v (o + 1) (fun q t A B => QRead_readFactor FQ (I ((o + 1 : Nat) : Int)) q t v sv A B) FM) : FS K T l v o (fun q t A B => QRead_readFactor (QRead_readNested FQ) (I (o : Int)) q t v sv A B) (Mod_compileFactor FM) := by
  intro q t M A B f e k cc h hq hc hcc ho
  have hR12 : hR v ≤ 12 := hv.1.2.2.1
  have eR : House_rooms v = I (hR v : Int) := hv.1.1
  dsimp only
  unfold QRead_readFactor Mod_compileFactor
  have hpred : I ((o + 1 : Nat) : Int) - 1 = I (o : Int) := by
    rw [I1, I_sub]
    congr 1
    omega
  -- one sign deeper
  have enter : o < 6 → ∃ f1 e1 k1 t1 M1, Toks_advance t = some t1 ∧ Mod_enter M = some M1 ∧ SS K T t1 M1 l f1 e1 k1 ∧ e ≤ f1 ∧ Model_codeCount M1 = I (cc : Int) ∧ Model_codes M1 = Model_codes M ∧ Model_nested M1 = I ((o + 1 : Nat) : Int) := by
    intro h6
    obtain ⟨t1, M1, f1, e1, k1, a1, a2, a3, a4, a5⟩ := adv_ss (h.nested (I ((o + 1 : Nat) : Int)))
    refine ⟨f1, e1, k1, t1, M1, a1, ?_, a3, a4, a5.2.2.2.trans ((Mo_codeCount_nested _ _).trans hc), a5.2.2.1.trans (Mo_codes_nested _ _), a5.2.1.trans (Mo_nested_nested _ _)⟩
    unfold Mod_enter Mod_enter_15
    rw [ho, if_neg (show ¬ (6 : Int32) ≤ I (o : Int) from I_le_f (a := 6) (b := (o : Int)) (by omega) (by omega) (by omega)), asB_1, check_t, bind_s, nmL_e, ho, I_succ, advance_0 (h.nested _).2.2.2, a2, bind_s]
  -- too deep
  have deep : ¬ o < 6 → ∃ M1, QRead_readNested FQ (I ((o + 1 : Nat) : Int)) q t v sv A B = some (0, QRead_set_error q 3, t, A, B) ∧ Mod_enter M = some M1 ∧ EE K T t M1 3 := by
    intro h6
    obtain ⟨M', m1, m2⟩ := flaw_ee h (c := 3) (by omega) (by omega)
    refine ⟨Model_set_nested M' (Model_nested M' + 1), ?_, ?_, m2.nested _⟩
    · unfold QRead_readNested
      rw [if_neg (show ¬ I ((o + 1 : Nat) : Int) ≤ (6 : Int32) from I_le_f (a := ((o + 1 : Nat) : Int)) (b := 6) (by omega) (by omega) (by omega)), nmL_e]
    · unfold Mod_enter Mod_enter_15
      rw [ho, if_pos (show (6 : Int32) ≤ I (o : Int) from I_le_t (a := 6) (b := (o : Int)) (by omega) (by omega) (by omega)), asB_0, show (3 : Int32) = I ((3 : Nat) : Int) from rfl, m1, bind_s, nmL_e, advance_e (m2.nested _).ne, bind_s]
  rcases word_ss h (i := 20) (j := 49) st20 (by decide) (by decide) (by decide) with ⟨w1, w2, -⟩ | ⟨-, -, -, -, -, w1, w2, -, -, -, -, wf, -⟩
  · rw [w1, w2, bind_s, bind_s, bif_f, bif_f]
    obtain ⟨b, s1, s2, s3⟩ := isSign_tk 40 h.1 h.2.2.2
    rw [s1, s2, bind_s, bind_s]
    cases b
    · rw [bif_f, bif_f]
      exact plain_ss hl hv hso FM h hq hc hcc ho A B
    · rw [bif_t, bif_t]
      have hk := (s3 rfl).1
      have h9 := h.1.2.2.2.2.2.2.2.2.1
      unfold QRead_readFactor_24
      rw [I_succ]
      by_cases h6 : o < 6
      · obtain ⟨f1, e1, k1, t1, M1, a1, a2, a3, a4, a5, a6, a7⟩ := enter h6
        have hT := test_fs hl (conj_fs hl (hF h6))
        rw [a2, bind_s, if_pos a3.2.2.2]
        unfold QRead_readNested Mod_compileFactor_68
        rw [if_pos (show I ((o + 1 : Nat) : Int) ≤ (6 : Int32) from I_le_t (a := ((o + 1 : Nat) : Int)) (b := 6) (by omega) (by omega) (by omega)), w1, bind_s, nmL_e, a1, bind_s, if_pos (show b2i false = 0 from rfl)]
        rcases hT q t1 M1 A B f1 e1 k1 cc a3 hq a5 (by omega) a7 with ⟨c3, x, q', t', A', B', M', r1, r2, r3, r4⟩ | ⟨S, q', t', A', B', M', f', e', k', cc', r1, r2, r3, r4, r5, r6, r7, r8, r9, r10, r11⟩
        · left
          have hne : ¬ QRead_error q' = 0 := by rw [r3]; exact r4.c0
          dsimp only at r1
          rw [r1, bind_s]
          dsimp only
          rw [if_neg hne]
          unfold QRead_readNested_84
          rw [if_neg hne, bind_s, r2, bind_s, expect_e r4.ne, bind_s, nmL_e]
          exact ⟨c3, x, q', t', A', B', _, rfl, rfl, r3, r4.nested _⟩
        · dsimp only at r1
          rw [r1, bind_s]
          dsimp only
          rw [if_pos r3, r2, bind_s]
          obtain ⟨b, s4, s5, s6⟩ := isSign_tk 41 r5.1 r5.2.2.2
          unfold Mod_expect QRead_readNested_84
          rw [s4, s5, bind_s, bind_s]
          cases b
          · left
            obtain ⟨M2, m1, m2⟩ := flaw_ee r5 (c := 1) (by omega) (by omega)
            rw [bif_f, nmL_e, if_neg (show ¬ QRead_error (QRead_set_error q' 1) = 0 by show ¬ (1 : Int32) = 0; decide), bind_s, show (1 : Int32) = I ((1 : Nat) : Int) from rfl, m1, bind_s, advance_e m2.ne, bind_s, bind_s, nmL_e]
            exact ⟨1, _, _, t', A', B', _, rfl, rfl, rfl, m2.nested _⟩
          · right
            obtain ⟨t2, M2, f2, e2, k2, b1, b2, b3, b4, b5⟩ := adv_ss r5
            have hfl := f_le r5
            have hck := r11.1
            rw [bif_t, if_pos r3, b1, bind_s, bind_s, check_t, bind_s, advance_0 r5.2.2.2, b2, bind_s, bind_s, nmL_e, b5.2.1, r9, I1, I_sub, show ((o + 1 : Nat) : Int) - 1 = (o : Int) by omega]
            refine ⟨S, q', t2, A', B', _, f2, e2, k2, cc', rfl, rfl, r3, r4, b3.nested _, by omega, ?_, by omega, Mo_nested_nested _ _, fun i hi => ?_, ?_⟩
            · rw [Mo_codeCount_nested, b5.2.2.2]; exact r7
            · rw [Mo_codes_nested, b5.2.2.1, r10 i hi, a6]
            · rw [Mo_codes_nested, b5.2.2.1]; exact r11
      · left
        obtain ⟨M1, d1, d2, d3⟩ := deep h6
        unfold Mod_compileFactor_68
        rw [d1, bind_s, d2, bind_s, if_neg d3.ne, expect_e d3.ne, bind_s, nmL_e]
        exact ⟨3, _, _, t, A, B, _, rfl, rfl, rfl, d3.nested _⟩
  · rw [w1, w2, bind_s, bind_s, bif_t, bif_t]
    unfold QRead_readFactor_24
    rw [I_succ]
    by_cases h6 : o < 6
    · obtain ⟨f1, e1, k1, t1, M1, a1, a2, a3, a4, a5, a6, a7⟩ := enter h6
      have eA : House_allRooms v = some (I ((2 ^ hR v - 1 : Nat) : Int)) := by
        unfold House_allRooms
        rw [eR, allRooms_e hR12]
      rw [a2, bind_s, if_pos a3.2.2.2]
      unfold QRead_readNested Mod_compileFactor_25
      rw [if_pos (show I ((o + 1 : Nat) : Int) ≤ (6 : Int32) from I_le_t (a := ((o + 1 : Nat) : Int)) (b := 6) (by omega) (by omega) (by omega)), w1, bind_s, nmL_e, a1, bind_s, if_neg (show ¬ b2i true = 0 by decide), eA, bind_s]
      rcases hF h6 q t1 M1 A B f1 e1 k1 cc a3 hq a5 (by omega) a7 with ⟨c3, x, q', t', A', B', M', r1, r2, r3, r4⟩ | ⟨S, q', t', A', B', M', f', e', k', cc', r1, r2, r3, r4, r5, r6, r7, r8, r9, r10, r11⟩
      · left
        dsimp only at r1
        rw [r1, bind_s, bind_s, r2, bind_s, emit_e r4.ne, bind_s, nmL_e]
        exact ⟨c3, _, q', t', A', B', _, rfl, rfl, r3, r4.nested _⟩
      · right
        have hfl := f_le r5
        have hck := r11.1
        dsimp only at r1
        obtain ⟨N, n1, n2, n3, n4, n5⟩ := emit_ss r5 r7 (by omega) (I (-23))
        rw [r1, bind_s, bind_s, r2, bind_s, Im23, n1, bind_s, nmL_e, n5, r9, hpred]
        dsimp only
        rw [I_andn]
        have hlt : 2 ^ hR v - 1 < 2 ^ hR v := Nat.sub_lt (Nat.two_pow_pos _) (by omega)
        refine ⟨sdf (2 ^ hR v - 1) S, q', t', A', B', _, f', e', k', cc' + 1, rfl, rfl, r3, sdf_lt hlt, n2.nested _, by omega, ?_, by omega, Mo_nested_nested _ _, fun i hi => ?_, ?_⟩
        · rw [Mo_codeCount_nested]; exact n3
        · rw [Mo_codes_nested, n4, upd_n (by omega), r10 i hi, a6]
        · rw [Mo_codes_nested]
          refine (push_not pvm_set (r11.congr (C' := Model_codes N) (fun i i1 i2 => by rw [n4, upd_n (by omega)]) (fun _ _ => rfl)) (by rw [n4, upd_i])).congr (fun _ _ _ => rfl) fun r hr => ?_
          unfold bv
          rw [sdf_bit, Nat.testBit_two_pow_sub_one, decide_eq_true hr, Bool.true_and]
          cases S.testBit r <;> rfl
    · left
      obtain ⟨M1, d1, d2, d3⟩ := deep h6
      unfold Mod_compileFactor_25
      rw [d1, bind_s, d2, bind_s, if_neg d3.ne, emit_e d3.ne, bind_s, nmL_e]
      exact ⟨3, _, _, t, A, B, _, rfl, rfl, rfl, d3.nested _⟩
/-- all depths -/
theorem factors (hl : l ≤ 200) (hv : HOK v) (hso : SOK sv v) : ∀ j, j ≤ 6 → FS K T l v (6 - j) (fun q t A B => QRead_readFactor (nestQ (j + 1)) (I ((6 - j : Nat) : Int)) q t v sv A B) (nestM (j + 1)) := by
  intro j
  induction j with
  | zero =>
    intro _
    exact factor_of hl hv hso (o := 6) (by omega) fun h => absurd h (by omega)
  | succ j ih =>
    intro hj
    have := ih (by omega)
    have e1 : 6 - j = 6 - (j + 1) + 1 := by omega
    rw [e1] at this
    exact factor_of hl hv hso (o := 6 - (j + 1)) (by omega) fun _ => this
end FACT2
