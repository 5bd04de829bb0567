section STEP
variable {K : KT} {T : TT} {t : ToksV} {M : ModelV} {l f e k g : Nat} {v : HouseV}
theorem ofDoorD_m {d f : Nat} (hd : d < 20) (hf : f < 3) : Mod_ofDoorD (I (d : Int)) (I (f : Int)) M = some (Model_draft M (64 + 3 * d + f)) := by
  unfold Mod_ofDoorD
  rw [doorAt_m, bind_s, gd_I (by omega) (by omega) (by omega), I_nat (by omega) (by omega), show (64 + 3 * (d : Int) + (f : Int)).toNat = 64 + 3 * d + f by omega]
theorem isBetweenD_m (hr : BR (Model_draft M) v g) (hn : WFn v) (hd : WFd v) {d a b : Nat} (h : d < hD v) (ha : a < 12) (hb : b < 12) : Mod_isBetweenD (I (d : Int)) (I (a : Int)) (I (b : Int)) M = some (btw v a b d) := by
  have hR12 : hR v ≤ 12 := hn.2.2.1
  have hD20 : hD v ≤ 20 := hn.2.2.2.2.1
  obtain ⟨e1, l1, e2, l2, ne⟩ := hd d h
  obtain ⟨m0, m1, -⟩ := hr.2.2.2.2.1 d h
  have r0 : Mod_ofDoorD (I (d : Int)) 0 M = some (I (hA v d : Int)) := by
    rw [I_zero, ofDoorD_m (by omega) (by omega), Nat.add_zero, m0, e1]
  have r1 : Mod_ofDoorD (I (d : Int)) 1 M = some (I (hB v d : Int)) := by
    rw [show (1 : Int32) = I ((1 : Nat) : Int) from rfl, ofDoorD_m (by omega) (by omega), show 64 + 3 * d + 1 = 65 + 3 * d by omega, m1, e2]
  have k20 : Mod_isBetweenD_20 (I (d : Int)) (I (a : Int)) (I (b : Int)) M = some (decide (hA v d = b) && decide (hB v d = a)) := by
    unfold Mod_isBetweenD_20
    rw [r0, bind_s]
    by_cases h1 : hA v d = b
    · rw [if_pos (by rw [h1]), r1, bind_s, decide_eq_true h1]
      by_cases h2 : hB v d = a
      · rw [if_pos (by rw [h2]), decide_eq_true h2]; rfl
      · rw [if_neg (I_ne (by omega) (by omega) (by omega) (by omega) (by omega)), decide_eq_false h2]; rfl
    · rw [if_neg (I_ne (by omega) (by omega) (by omega) (by omega) (by omega)), decide_eq_false h1]; rfl
  unfold Mod_isBetweenD btw
  rw [r0, bind_s]
  by_cases h1 : hA v d = a
  · rw [if_pos (by rw [h1]), r1, bind_s, decide_eq_true h1]
    by_cases h2 : hB v d = b
    · rw [if_pos (by rw [h2]), decide_eq_true h2]; rfl
    · rw [if_neg (I_ne (by omega) (by omega) (by omega) (by omega) (by omega)), decide_eq_false h2, k20]; rfl
  · rw [if_neg (I_ne (by omega) (by omega) (by omega) (by omega) (by omega)), decide_eq_false h1, k20]; rfl
theorem openBetweenD_m (hr : BR (Model_draft M) v g) (hn : WFn v) (hd : WFd v) {a b : Nat} (ha : a < 12) (hb : b < 12) : Mod_openBetweenD (I (a : Int)) (I (b : Int)) M = some (I ((cnt (fun d => opn v d && btw v a b d) (hD v) : Nat) : Int)) := by
  have hD20 : hD v ≤ 20 := hn.2.2.2.2.1
  have e1 : Model_draft M (Int32.toNatClampNeg 1) = I (hD v : Int) := hr.2.1.trans hn.2.2.2.1
  have key : ∀ (m k n : Nat), hD v = k + m → m < n → Mod_openBetweenD_5 (I (a : Int)) (I (b : Int)) M n (I ((cnt (fun d => opn v d && btw v a b d) k : Nat) : Int)) (I (k : Int)) = some (I ((cnt (fun d => opn v d && btw v a b d) (hD v) : Nat) : Int)) := by
    intro m
    induction m with
    | zero =>
      intro k n hk hm
      obtain ⟨n, rfl⟩ : ∃ q, n = q + 1 := ⟨n - 1, by omega⟩
      rw [Mod_openBetweenD_5, gd_t (show inB (1 : Int32) 172 = true from rfl), e1, if_pos (I_le_t (by omega) (by omega) (by omega)), hk, Nat.add_zero]
    | succ m ih =>
      intro k n hk hm
      obtain ⟨n, rfl⟩ : ∃ q, n = q + 1 := ⟨n - 1, by omega⟩
      have := ih (k + 1) n (by omega) (by omega)
      rw [Mod_openBetweenD_5, gd_t (show inB (1 : Int32) 172 = true from rfl), e1, if_neg (I_le_f (by omega) (by omega) (by omega)), isBetweenD_m hr hn hd (by omega) ha hb, bind_s]
      rw [cnt] at this
      cases hbt : btw v a b k
      · rw [hbt, Bool.and_false, bif_f] at this
        rw [bif_f, nmL_e, nmL_e, I_succ, I0, I_add]
        exact this
      · rw [hbt, Bool.and_true] at this
        rw [bif_t, show (2 : Int32) = I ((2 : Nat) : Int) from rfl, ofDoorD_m (by omega) (by omega), bind_s, show 64 + 3 * k + 2 = 66 + 3 * k by omega, (hr.2.2.2.2.1 k (by omega)).2.2, nmL_e, nmL_e, I_succ, I_add]
        exact this
  unfold Mod_openBetweenD
  exact key (hD v) 0 FU (by omega) (by unfold FU; omega)
def go (v : HouseV) (a b : Nat) : Bool := decide (a = b) || (jm v a).testBit b
theorem canGo_s (b : BW v g) {a c : Nat} (ha : a < hR v) (hc : c < hR v) : House_canGo (I (a : Int)) (I (c : Int)) v = some (go v a c) := by
  obtain ⟨hn, hd, hj, -⟩ := b
  have hR12 : hR v ≤ 12 := hn.2.2.1
  unfold House_canGo go
  rw [Im1, if_neg (I_ne (by omega) (by omega) (by omega) (by omega) (by omega))]
  by_cases h : a = c
  · rw [if_pos (by rw [h]), decide_eq_true h, Bool.true_or]
  · have hl := jm_lt hd a
    rw [if_neg (I_ne (by omega) (by omega) (by omega) (by omega) (by omega)), decide_eq_false h, Bool.false_or, hasRoom_s hn (by omega) (by omega), decide_eq_true (by omega), bind_s, bif_t, gd_I (by omega) (by omega) (by omega), I_clamp a (by omega), hj a (by omega), gwhas_s (Nat.lt_of_lt_of_le hl (Nat.le_trans (two_pow_le (by omega)) (by decide))) (by omega), bind_s]
    cases (jm v a).testBit c <;> rfl
theorem canGo_n (x : Int32) : House_canGo (-1) x v = some true := by
  unfold House_canGo
  rw [if_pos rfl]
theorem isStep_m (b : BW v g) (hr : BR (Model_draft M) v g) {a c : Nat} (ha : a < hR v) (hc : c < hR v) : Mod_isStep (I (a : Int)) (I (c : Int)) M = some (go v a c) := by
  obtain ⟨hn, hd, hj, -⟩ := b
  have hR12 : hR v ≤ 12 := hn.2.2.1
  have hD20 : hD v ≤ 20 := hn.2.2.2.2.1
  unfold Mod_isStep go
  by_cases h : a = c
  · rw [if_pos (by rw [h]), decide_eq_true h, Bool.true_or]
  · have hcn := cnt_le (fun d => opn v d && btw v a c d) (hD v)
    rw [if_neg (I_ne (by omega) (by omega) (by omega) (by omega) (by omega)), decide_eq_false h, Bool.false_or, joined_iff, openBetweenD_m hr hn hd (by omega) (by omega), bind_s]
    by_cases c0 : cnt (fun d => opn v d && btw v a c d) (hD v) = 0
    · rw [if_pos (show I ((cnt (fun d => opn v d && btw v a c d) (hD v) : Nat) : Int) ≤ (0 : Int32) from I_le_t (a := ((cnt (fun d => opn v d && btw v a c d) (hD v) : Nat) : Int)) (b := 0) (by omega) (by omega) (by omega)), decide_eq_false (by omega)]
    · rw [if_neg (show ¬ I ((cnt (fun d => opn v d && btw v a c d) (hD v) : Nat) : Int) ≤ (0 : Int32) from I_le_f (a := ((cnt (fun d => opn v d && btw v a c d) (hD v) : Nat) : Int)) (b := 0) (by omega) (by omega) (by omega)), decide_eq_true (by omega)]
theorem ga0 (g : Nat) : Mod_guardAt (I (g : Int)) 0 = some (I ((124 + 12 * g : Nat) : Int)) := by
  rw [I0, guardAt_m]
  congr 2
theorem ga1 (g : Nat) : Mod_guardAt (I (g : Int)) 1 = some (I ((125 + 12 * g : Nat) : Int)) := by
  rw [I1, guardAt_m]
  congr 2
  omega
theorem ga2 (g s : Nat) : Mod_guardAt (I (g : Int)) (2 + I (s : Int)) = some (I ((126 + 12 * g + s : Nat) : Int)) := by
  rw [I2, I_add, guardAt_m]
  congr 2
  omega
theorem roomsD_m (hr : BR (Model_draft M) v g) (hn : WFn v) : Mod_roomsD M = some (I (hR v : Int)) := by
  unfold Mod_roomsD
  rw [gd_t (show inB (0 : Int32) 172 = true from rfl)]
  exact congrArg some (hr.1.trans hn.1)
theorem isRoomD_m (hr : BR (Model_draft M) v g) (hn : WFn v) {c : Nat} (hc : c ≤ 2000000000) : Mod_isRoomD (I (c : Int)) M = some (decide (c < hR v)) := by
  have hR12 : hR v ≤ 12 := hn.2.2.1
  have hR1 : 1 ≤ hR v := hn.2.1
  unfold Mod_isRoomD
  rw [roomsD_m hr hn, bind_s, I1, I_sub, I0, inRange_s (by omega) (by omega) (by omega) (by omega) (by omega) (by omega), bind_s]
  exact congrArg some (decide_eq_decide.mpr (by omega))
theorem stepD_m (hg : g < 4) {s : Nat} (hs : s < 10) : Mod_stepD (I (g : Int)) (I (s : Int)) M = some (Model_draft M (126 + 12 * g + s)) := by
  unfold Mod_stepD
  rw [ga2, bind_s, gd_I (by omega) (by omega) (by omega), I_clamp _ (by omega)]
/-! behind an error -/
theorem e164 (h : ¬ Model_error M = 0) (x : Int32) : Mod_readStep_164 x M = some M := by
  unfold Mod_readStep_164
  rw [advance_e h, bind_s]
theorem e118 (h : ¬ Model_error M = 0) (x y : Int32) : Mod_readStep_118 x y M = some M := by
  unfold Mod_readStep_118 Mod_readStep_123
  rw [asB_1, check_e h, bind_s, if_neg h, e164 h]
theorem e78 (h : ¬ Model_error M = 0) (x y : Int32) : Mod_readStep_78 x y M = some M := by
  unfold Mod_readStep_78 Mod_readStep_83
  rw [asB_1, check_e h, bind_s, if_neg h, e118 h]
theorem e55 (h : ¬ Model_error M = 0) (x y : Int32) : Mod_readStep_55 x y M = some M := by
  unfold Mod_readStep_55 Mod_readStep_60
  rw [asB_1, check_e h, bind_s, if_neg h, e78 h]
theorem roomsC (hn : WFn v) : House_rooms v - 1 = I ((hR v : Int) - 1) := by rw [hn.1, I1, I_sub]
theorem stepCode_nc {p : Int32} (h : Toks_numberCode 0 (House_rooms v - 1) t = some p) (hp : ¬ p = 0) (x : Int32) : HRead_stepCode x t v = some p := by
  unfold HRead_stepCode
  rw [h, bind_s, if_neg hp]
theorem kpT_draft (M : ModelV) (x : Nat → Int32) : kp (Model_set_draft M x) = kp M := kp_draft M x
/-- a step of a walk -/
theorem step_ss (h : SS K T t M l f e k) (b : BW v g) (hg : g < hG v) (hw : WFw v g) (hb : BR (Model_draft M) v g) (hr : rowM (Model_draft M) v g) : (∃ (c : Nat) (M' : ModelV), 1 ≤ c ∧ c ≤ 4 ∧ HRead_stepCode (I (g : Int)) t v = some (I (c : Int)) ∧ Mod_readStep (I (g : Int)) M = some M' ∧ EE K T t M' c) ∨ (∃ (a : Nat) (v' : HouseV) (t' : ToksV) (M' : ModelV) (f' e' k' : Nat), k = 2 ∧ Toks_number t = I (a : Int) ∧ HRead_stepCode (I (g : Int)) t v = some 0 ∧ House_addStep (I (g : Int)) (I (a : Int)) v = some v' ∧ Toks_advance t = some t' ∧ Mod_readStep (I (g : Int)) M = some M' ∧ SS K T t' M' l f' e' k' ∧ e ≤ f' ∧ GU v' v g ∧ WFw v' g ∧ hP v' g = hP v g + 1 ∧ House_phases v' g = House_phases v g ∧ AO (Model_draft M') (Model_draft M) g ∧ rowM (Model_draft M') v' g) := by
  have hh := h
  obtain ⟨t1, t2, t3, t4⟩ := h
  obtain ⟨hn, hd, hj, -⟩ := id b
  have hR12 : hR v ≤ 12 := hn.2.2.1
  have hR1 : 1 ≤ hR v := hn.2.1
  have hG4 : hG v ≤ 4 := hn.2.2.2.2.2.2.1
  have hP10 : hP v g ≤ 10 := hw.2.1
  have ePer : Model_draft M (124 + 12 * g) = I (hP v g : Int) := hr.1.trans hw.1
  have hrs : Mod_readStep (I (g : Int)) M = if Model_error M = 0 then if Model_token M = 2 then Mod_readStep_27 (I (g : Int)) (I (hP v g : Int)) M else Mod_readStep_32 (I (g : Int)) (I (hP v g : Int)) 0 M else Mod_readStep_27 (I (g : Int)) (I (hP v g : Int)) M := by
    unfold Mod_readStep
    rw [ga0, bind_s, gd_I (by omega) (by omega) (by omega), I_clamp _ (by omega), ePer, nmL_e]
  rw [if_pos t4] at hrs
  by_cases hk : k = 2
  · subst hk
    rw [if_pos ((km2 t1).mpr rfl)] at hrs
    obtain ⟨a, c, n1, n2, n3, n4, n5⟩ := num_tk t1
    unfold Mod_readStep_27 Mod_readStep_32 at hrs
    rw [asB_1, check_t, bind_s, if_pos t4, n2, bind_s, isRoomD_m hb hn n4, bind_s] at hrs
    have hnc : Toks_numberCode 0 (House_rooms v - 1) t = some (if (0 : Int) ≤ a ∧ (a : Int) ≤ (hR v : Int) - 1 then 0 else 2) := by
      rw [roomsC hn]
      exact numberCode_s t1 n1 n3 (lo := 0) (by omega) (by omega) (by omega) (by omega)
    by_cases hc : c < hR v
    · obtain rfl : a = c := by omega
      rw [if_pos (by omega)] at hnc
      rw [decide_eq_true hc, bif_t] at hrs
      unfold Mod_readStep_55 Mod_readStep_60 at hrs
      rw [asB_1, check_t, bind_s, if_pos t4, I10] at hrs
      have hsc : HRead_stepCode (I (g : Int)) t v = if hP v g < 10 then HRead_stepCode_42 (I (g : Int)) t v else some 3 := by
        unfold HRead_stepCode
        rw [hnc, bind_s, if_pos rfl, hasG b hg, bind_s, bif_t, gd_I (by omega) (by omega) (by omega), I_clamp g (by omega), hw.1, I10]
        by_cases c10 : hP v g < 10
        · rw [if_pos (I_lt_t (by omega) (by omega) (by omega)), if_pos c10]
        · rw [if_neg (I_lt_f (by omega) (by omega) (by omega)), if_neg c10]
      by_cases c10 : hP v g < 10
      · rw [if_pos c10] at hsc
        rw [if_neg (I_le_f (by omega) (by omega) (by omega))] at hrs
        unfold Mod_readStep_78 Mod_readStep_83 at hrs
        rw [asB_1, check_t, bind_s, if_pos t4] at hrs
        -- may the guard go there
        have hgo : ∃ q : Bool, HRead_stepCode_42 (I (g : Int)) t v = some (bif q then 0 else 4) ∧ Mod_readStep (I (g : Int)) M = (bif q then Mod_readStep_118 (I (g : Int)) (I (hP v g : Int)) M else Mod_readStep_123 (I (g : Int)) (I (hP v g : Int)) 0 M) := by
          unfold HRead_stepCode_42
          rw [lastRoom_s hn hg hw, bind_s, n1]
          by_cases c0 : hP v g = 0
          · refine ⟨true, ?_, ?_⟩
            · rw [if_pos c0, canGo_n, bind_s]; rfl
            · rw [hrs, if_pos (show I (hP v g : Int) = (0 : Int32) by rw [c0]; rfl)]; rfl
          · have hlast := (hw.2.2.1 (hP v g - 1) (by omega))
            refine ⟨go v (hW v g (hP v g - 1)) a, ?_, ?_⟩
            · rw [if_neg c0, canGo_s b hlast.2 hc, bind_s]
              cases go v (hW v g (hP v g - 1)) a <;> rfl
            · have e3 : Model_draft M (126 + 12 * g + (hP v g - 1)) = I (hW v g (hP v g - 1) : Int) := (hr.2.2 _ (by omega)).trans hlast.1
              rw [hrs, if_neg (show ¬ I (hP v g : Int) = (0 : Int32) from I_ne (a := (hP v g : Int)) (b := 0) (by omega) (by omega) (by omega) (by omega) (by omega)), I1, I_sub, show (hP v g : Int) - 1 = ((hP v g - 1 : Nat) : Int) by omega, stepD_m (by omega) (by omega), bind_s, n2, bind_s, e3, isStep_m b hb hlast.2 hc, bind_s]
        obtain ⟨q, q1, q2⟩ := hgo
        rw [hsc, q1, q2]
        cases q
        · left
          obtain ⟨M', m1, m2⟩ := flaw_ee hh (c := 4) (by omega) (by omega)
          refine ⟨4, M', by omega, by omega, by rw [bif_f]; rfl, ?_, m2⟩
          unfold Mod_readStep_123
          rw [bif_f, asB_0, show (4 : Int32) = I ((4 : Nat) : Int) from rfl, m1, bind_s, if_neg m2.ne, e164 m2.ne]
        · right
          obtain ⟨v', s1, s2, s3, s4, s5, s6, s7⟩ := addStep_s b hg hw c10 hc
          -- the model's row
          have hd' : ∃ N, Mod_readStep_118 (I (g : Int)) (I (hP v g : Int)) M = Mod_readStep_164 (I (g : Int)) N ∧ kpV N = kpV M ∧ kp N = kp M ∧ Model_error N = 0 ∧ AO (Model_draft N) (Model_draft M) g ∧ Model_draft N (124 + 12 * g) = I ((hP v g + 1 : Nat) : Int) ∧ Model_draft N (126 + 12 * g + hP v g) = I (a : Int) ∧ ∀ i, i ≠ 124 + 12 * g → i ≠ 126 + 12 * g + hP v g → Model_draft N i = Model_draft M i := by
            unfold Mod_readStep_118 Mod_readStep_123
            rw [asB_1, check_t, bind_s, if_pos t4, ga2, bind_s, n2, bind_s, gd_I (by omega) (by omega) (by omega), I_clamp _ (by omega), nmL_e, ga0, bind_s, gd_I (by omega) (by omega) (by omega), I_clamp _ (by omega), nmL_e, Mo_draft_draft, upd_n (by omega), ePer, I_succ]
            refine ⟨_, rfl, (kpV_draft _ _).trans (kpV_draft _ _), (kp_draft _ _).trans (kp_draft _ _), ?_, ?_, ?_, ?_, fun i i1 i2 => ?_⟩
            · rw [Mo_error_draft, Mo_error_draft]; exact t4
            · rw [Mo_draft_draft]
              exact ((AO.refl _ g).upd (by omega) (by omega) _).upd (by omega) (by omega) _
            · rw [Mo_draft_draft, upd_i]
            · rw [Mo_draft_draft, upd_n (by omega), upd_i]
            · rw [Mo_draft_draft, upd_n i1, upd_n i2]
          obtain ⟨N, d1, d2, d3, d4, d5, d6, d7, d8⟩ := hd'
          obtain ⟨t', M', f', e', k', a1, a2, a3, a4, a5⟩ := adv_ss (K := K) (T := T) (M := N) ⟨t1.c d2, t2, d3.trans t3, d4⟩
          refine ⟨a, v', t', M', f', e', k', rfl, n1, rfl, s1, a1, ?_, a3, a4, s2, s3, s4, s5, ?_, ?_⟩
          · rw [bif_t, d1]
            unfold Mod_readStep_164
            rw [advance_0 d4, a2, bind_s]
          · rw [a5.1]; exact d5
          · unfold rowM
            rw [a5.1, d6, s3.1, s4, s5, d8 _ (by omega) (by omega)]
            refine ⟨rfl, hr.2.1, fun s hs => ?_⟩
            by_cases c : s = hP v g
            · rw [c, d7, s6]
            · rw [d8 _ (by omega) (by omega), s7 s (by omega)]
              exact hr.2.2 s (by omega)
      · left
        obtain ⟨M', m1, m2⟩ := flaw_ee hh (c := 3) (by omega) (by omega)
        rw [if_neg c10] at hsc
        refine ⟨3, M', by omega, by omega, hsc, ?_, m2⟩
        rw [hrs, if_pos (I_le_t (by omega) (by omega) (by omega))]
        unfold Mod_readStep_83
        rw [asB_0, show (3 : Int32) = I ((3 : Nat) : Int) from rfl, m1, bind_s, if_neg m2.ne, e118 m2.ne]
    · left
      obtain ⟨M', m1, m2⟩ := flaw_ee hh (c := 2) (by omega) (by omega)
      rw [if_neg (by omega)] at hnc
      refine ⟨2, M', by omega, by omega, stepCode_nc hnc (by decide) _, ?_, m2⟩
      rw [hrs, decide_eq_false hc, bif_f]
      unfold Mod_readStep_60
      rw [asB_0, show (2 : Int32) = I ((2 : Nat) : Int) from rfl, m1, bind_s, if_neg m2.ne, e78 m2.ne]
  · left
    obtain ⟨M', m1, m2⟩ := flaw_ee hh (c := 1) (by omega) (by omega)
    rw [if_neg fun q => hk ((km2 t1).mp q)] at hrs
    refine ⟨1, M', by omega, by omega, stepCode_nc (numberCode_n t1 hk _ _) (by decide) _, ?_, m2⟩
    rw [hrs]
    unfold Mod_readStep_32
    rw [asB_0, show (1 : Int32) = I ((1 : Nat) : Int) from rfl, m1, bind_s, if_neg m2.ne, e55 m2.ne]
end STEP
