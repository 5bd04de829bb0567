section READ2
variable {K : KT} {T : TT} {t : ToksV} {M : ModelV} {l f e k : Nat} {v : HouseV} {m : Nat → Int32}
/-- a limit -/
theorem limit_rc (h : SS K T t M l f e k) (hv : HOK v) (hr : RelM (Model_draft M) v) (hfe : f < e) : RC K T l f (Option.bind (HRead_readLimit t v) fun p => some (p.1, p.2.1, p.2.2)) (Option.bind (Option.bind (Mod_scan M) Mod_readLimit) fun p => Mod_expect 59 p) := by
  have hn := hv.1
  have hR12 : hR v ≤ 12 := hn.2.2.1
  unfold HRead_readLimit
  obtain ⟨t1, M1, f1, e1, k1, a1, a2, a3, a4, a5⟩ := adv_ss h
  have hr1 : RelM (Model_draft M1) v := by rw [a5.1]; exact hr
  rw [a1, a2, bind_s, bind_s]
  unfold Mod_readLimit
  have assoc : ∀ {α β γ : Type} (x : Option α) (F : α → Option β) (G : β → Option γ), Option.bind x (fun p => Option.bind (F p) G) = Option.bind (Option.bind x F) G := fun x F G => by cases x <;> rfl
  rw [assoc (Mod_roomsD M1)]
  have e0 : (0 : Int32) = I 0 := rfl
  have e99 : (99 : Int32) = I 99 := rfl
  rcases room_ss a3 hv hr1 with ⟨c, M2, n1, n2, n3, n4, n5⟩ | ⟨a, t2, M2, f2, e2, k2, n1, n2, n3, n4, n5, n6, n7, n8, -⟩
  · left
    rw [n3, bind_s, if_neg n5.c0, bind_s, n4, bind_s, readNumber_e n5.ne n5.val, bind_s, if_neg n5.ne, bind_s, expect_e n5.ne]
    exact ⟨c, t1, v, M2, n1, n2, rfl, rfl, n5⟩
  · have hr2 : RelM (Model_draft M2) v := by rw [n8]; exact hr1
    rw [n2, bind_s, if_pos rfl, nmL_e, n3, n4, bind_s, n5, bind_s]
    rcases num_ss n6 (lo := 0) (hi := 99) (by omega) (by omega) (by omega) (by omega) with ⟨c, M3, m0, m1, m2, m3⟩ | ⟨b, t3, M3, fq, eq, kq, m1, m2, m3, m4, m5, m6, m7, m8, m9, m10, -⟩
    · left
      have m1' : Toks_numberCode 0 99 t2 = some (I (c : Int)) := m1
      have m2' : Mod_readNumber 0 99 M2 = some (0, M3) := m2
      rw [m1', bind_s, if_neg m3.c0, bind_s, m2', bind_s, if_neg m3.ne, bind_s, expect_e m3.ne]
      exact ⟨c, t2, v, M3, m0, m3.2.2.2.2.1, rfl, rfl, m3⟩
    · have m1' : Toks_numberCode 0 99 t2 = some 0 := m1
      have m6' : Mod_readNumber 0 99 M2 = some (I (b : Int), M3) := m6
      obtain ⟨w, w1, w2, w3, -⟩ := setLimit_ok hv hr2 (r := a) (a := b) n1 (by omega)
      have asc : ∀ (x : Option (Int32 × ToksV)), Option.bind (Option.bind x fun p => some (p.1, p.2, w)) (fun p => some (p.1, p.2.1, p.2.2)) = Option.bind x fun p => some (p.1, p.2, w) := fun x => by cases x <;> rfl
      rw [m1', bind_s, if_pos rfl, hasRoom_s hn (by omega) (by omega), decide_eq_true (by omega), bind_s, bif_t, gd_I (by omega) (by omega) (by omega), nmL_e, m4, I_clamp a (by omega), ← w1, m6', bind_s, if_pos m7.2.2.2, ra0, bind_s, gd_I (by omega) (by omega) (by omega), I_clamp _ (by omega), nmL_e, bind_s, m10.1]
      unfold HRead_readLimit_81
      rw [m5, bind_s, asc]
      exact (semi_rc (m7.draft (upd (Model_draft M2) (4 + 5 * a) (I (b : Int)))) w2 (by rw [Mo_draft_draft]; exact w3)).mono (by omega)
theorem setGuards_bw (hv : HOK v) (hg4 : hG v < 4) (hr : RelM m v) : ∃ w, w = House_set_guards v (House_guards v + 1) ∧ BW w (hG v) ∧ hG w = hG v + 1 ∧ BR m w (hG v) ∧ House_guards w = I ((hG v + 1 : Nat) : Int) := by
  obtain ⟨hn, hd, hj, hl, hw, hs⟩ := hv
  have eG : House_guards v = I (hG v : Int) := hn.2.2.2.2.2.1
  obtain ⟨x, hx⟩ : ∃ x, x = I ((hG v + 1 : Nat) : Int) := ⟨_, rfl⟩
  have ex : House_guards v + 1 = x := by rw [eG, hx, I_succ]
  rw [ex]
  refine ⟨_, rfl, ?_⟩
  have f1 : House_rooms (House_set_guards v x) = House_rooms v := Ho_rooms_guards _ _
  have f2 : House_doors (House_set_guards v x) = House_doors v := Ho_doors_guards _ _
  have f3 : House_guards (House_set_guards v x) = x := Ho_guards_guards _ _
  have f4 : House_minute (House_set_guards v x) = House_minute v := Ho_minute_guards _ _
  have f5 : House_openDoors (House_set_guards v x) = House_openDoors v := Ho_openDoors_guards _ _
  have f6 : House_doorFirst (House_set_guards v x) = House_doorFirst v := Ho_doorFirst_guards _ _
  have f7 : House_doorSecond (House_set_guards v x) = House_doorSecond v := Ho_doorSecond_guards _ _
  have f8 : House_limits (House_set_guards v x) = House_limits v := Ho_limits_guards _ _
  have f9 : House_periods (House_set_guards v x) = House_periods v := Ho_periods_guards _ _
  have f10 : House_phases (House_set_guards v x) = House_phases v := Ho_phases_guards _ _
  have f11 : House_walks (House_set_guards v x) = House_walks v := Ho_walks_guards _ _
  have f12 : House_walked (House_set_guards v x) = House_walked v := Ho_walked_guards _ _
  have f13 : House_sightings (House_set_guards v x) = House_sightings v := Ho_sightings_guards _ _
  have f14 : House_lastSeen (House_set_guards v x) = House_lastSeen v := Ho_lastSeen_guards _ _
  have f15 : House_runs (House_set_guards v x) = House_runs v := Ho_runs_guards _ _
  have f16 : House_longestRuns (House_set_guards v x) = House_longestRuns v := Ho_longestRuns_guards _ _
  have f19 : House_joined (House_set_guards v x) = House_joined v := Ho_joined_guards _ _
  revert f1 f2 f3 f4 f5 f6 f7 f8 f9 f10 f11 f12 f13 f14 f15 f16 f19
  generalize House_set_guards v x = w
  intro f1 f2 f3 f4 f5 f6 f7 f8 f9 f10 f11 f12 f13 f14 f15 f16 f19
  have gR : hR w = hR v := by unfold hR; rw [f1]
  have gM : hM w = hM v := by unfold hM; rw [f4]
  have gO : hO w = hO v := by unfold hO; rw [f5]
  have gD : hD w = hD v := by unfold hD; rw [f2]
  have gG : hG w = hG v + 1 := by unfold hG at *; rw [f3, hx]; exact I_clamp _ (by omega)
  have gP : hP w = hP v := by unfold hP; rw [f9]
  have gF : hF w = hF v := by unfold hF; rw [f10]
  refine ⟨⟨?_, wfd_c f2 f1 f6 f7 hd, wfj_c f2 f5 f6 f7 f19 hj, wfl_c f8 hl, wfs_c f4 f13 f15 f16 f14 hs, fun g' hg hne => ?_⟩, gG, ?_, by rw [f3, hx]⟩
  · obtain ⟨a1, a2, a3, a4, a5, a6, a7, a8, a9, a10, a11⟩ := hn
    unfold WFn
    rw [gO, gD, gG, gR, gM, f1, f2, f3, f4, f5]
    exact ⟨a1, a2, a3, a4, a5, hx, by omega, a8, a9, a10, a11⟩
  · rw [gG] at hg
    obtain ⟨c1, c2, c3, c4⟩ := hw g' (by omega)
    refine ⟨wfw_c f1 f9 f11 f12 c1, ?_, ?_, ?_⟩
    · rw [gP]; exact c2
    · rw [gF, f10]; exact c3
    · rw [gF, gP]; exact c4
  · obtain ⟨a1, a2, a3, a4, a5, a6, a7⟩ := hr
    unfold BR
    rw [gO, gD, gG, f1, f2, f4, f6, f7, f8, f13, f14, f15, f16]
    refine ⟨a1, a2, a4, a5, a6, fun g' hg hne => ?_⟩
    unfold rowM
    rw [gP, f9, f10, f11]
    exact a7 g' (by omega)
/-- what is well behind a walk -/
theorem hok_of {g : Nat} {w v' : HouseV} (b : BW w g) (gu : GU v' w g) (ww : WFw v' g) (h1 : 1 ≤ hP v' g) (h2 : House_phases v' g = I (hF v' g : Int)) (h3 : hF v' g < hP v' g) : HOK v' := by
  obtain ⟨b1, b2, b3, b4, b5, b6⟩ := gu.bw b
  exact ⟨b1, b2, b3, b4, fun g' hg => by
    by_cases c : g' = g
    · rw [c]; exact ⟨ww, h1, h2, h3⟩
    · exact b6 g' hg c, b5⟩
/-- a guard -/
theorem guard_rc (h : SS K T t M l f e k) (hv : HOK v) (hr : RelM (Model_draft M) v) (hfe : f < e) : RC K T l f (if (4 : Int32) ≤ House_guards v then some (3, t, v) else Option.bind (HRead_readGuard t v) fun p => some (p.1, p.2.1, p.2.2)) (Option.bind (Mod_readGuard M) fun p => Mod_expect 59 p) := by
  have hn := hv.1
  have hG4 : hG v ≤ 4 := hn.2.2.2.2.2.2.1
  have eG : House_guards v = I (hG v : Int) := hn.2.2.2.2.2.1
  have eMd : Model_draft M (Int32.toNatClampNeg 2) = I (hG v : Int) := hr.2.2.1.trans eG
  unfold Mod_readGuard
  rw [gd_t (show inB (2 : Int32) 172 = true from rfl), eMd, eG, I4]
  by_cases c4 : 4 ≤ hG v
  · left
    obtain ⟨M', m1, m2⟩ := flaw_ee h (c := 3) (by omega) (by omega)
    rw [if_pos (I_le_t (by omega) (by omega) (by omega)), if_pos (I_le_t (by omega) (by omega) (by omega))]
    refine ⟨3, t, v, M', by omega, by omega, rfl, ?_, m2⟩
    unfold Mod_readGuard_16
    rw [asB_0, show (3 : Int32) = I ((3 : Nat) : Int) from rfl, m1, bind_s, advance_e m2.ne, bind_s, if_neg m2.ne, bind_s, expect_e m2.ne]
  · rw [if_neg (I_le_f (by omega) (by omega) (by omega)), if_neg (I_le_f (by omega) (by omega) (by omega))]
    unfold HRead_readGuard Mod_readGuard_16
    obtain ⟨t1, M1, f1, e1, k1, a1, a2, a3, a4, a5⟩ := adv_ss h
    have hr1 : RelM (Model_draft M1) v := by rw [a5.1]; exact hr
    obtain ⟨w, w1, w2, w3, w4, w5⟩ := setGuards_bw hv (by omega) hr1
    have eM1 : Model_draft M1 (Int32.toNatClampNeg 2) = I (hG v : Int) := by rw [a5.1]; exact eMd
    rw [asB_1, check_t, bind_s, advance_0 h.2.2.2, a1, a2, bind_s, bind_s, if_pos a3.2.2.2, gd_t (show inB (2 : Int32) 172 = true from rfl), nmL_e, nmL_e, ← w1, eM1, eG]
    rcases walk_ss a3 w2 (by omega) w4 false with ⟨c, t2, v2, M2, b1, b2, b3, b4, b5⟩ | ⟨t2, v2, M2, f2, e2, k2, b1, b2, b3, b4, b5, b6, b7, b8, b9, b10, b11⟩
    · left
      rw [b3, b4, bind_s, bind_s, nmL_e, if_neg b5.c0, bind_s, bind_s, expect_e (b5.draft _).ne]
      exact ⟨c, t2, v2, _, b1, b2, rfl, rfl, b5.draft _⟩
    · rw [b1, b2, bind_s, bind_s, nmL_e, if_pos rfl, bind_s]
      have hok := hok_of w2 b5 b6 b7 b8 b9
      have ed2 : Model_draft M2 (Int32.toNatClampNeg 2) = I (hG v : Int) := (b10 2 (Or.inl (by omega))).trans eM1
      have hrel : RelM (Model_draft (Model_set_draft M2 (upd (Model_draft M2) (Int32.toNatClampNeg 2) (Model_draft M2 (Int32.toNatClampNeg 2) + 1)))) v2 := by
        rw [Mo_draft_draft, ed2, I_succ]
        refine br_rel (b5.bw w2) (b5.br w2 b10 w4 (by omega)) b11 b6 (fun i hi h2 => upd_n h2) ?_
        rw [b5.2.2.1, w5]
        exact upd_i
      have asc : ∀ (x : Option (Int32 × ToksV)), Option.bind (Option.bind x fun p => some (p.1, p.2, v2)) (fun p => some (p.1, p.2.1, p.2.2)) = Option.bind x fun p => some (p.1, p.2, v2) := fun x => by cases x <;> rfl
      rw [asc]
      have h9 := a3.1.2.2.2.2.2.2.2.2.1
      exact (semi_rc (b3.draft _) hok hrel).mono (by omega)
/-- a clause -/
theorem clause_rc (h : SS K T t M l f e k) (hv : HOK v) (hr : RelM (Model_draft M) v) (hk : ¬ k = 0) : RC K T l f (HRead_readClause t v) (Option.bind (Mod_isWord 46 M) fun p44 => bif p44 then Option.bind (Mod_readDoor M) (fun p => Mod_expect 59 p) else Option.bind (Mod_isWord 47 M) fun p61 => bif p61 then Option.bind (Mod_readGuard M) (fun p => Mod_expect 59 p) else Option.bind (Option.bind (Mod_expectWord 34 M) Mod_readLimit) fun p => Mod_expect 59 p) := by
  have hfe : f < e := by
    have := h.1.2.2.2.2.2.2.2.2.1
    omega
  unfold HRead_readClause
  rcases word_ss h (i := 11) (j := 46) st11 (by decide) (by decide) (by decide) with ⟨w1, w2, -⟩ | ⟨-, -, -, -, -, w1, w2, -⟩
  · rw [w1, w2, bind_s, bind_s, bif_f, bif_f]
    rcases word_ss h (i := 12) (j := 47) st12 (by decide) (by decide) (by decide) with ⟨w3, w4, -⟩ | ⟨-, -, -, -, -, w3, w4, -⟩
    · rw [w3, w4, bind_s, bind_s, bif_f, bif_f]
      unfold Mod_expectWord
      rcases word_ss h (i := 13) (j := 34) st13 (by decide) (by decide) (by decide) with ⟨w5, w6, -⟩ | ⟨-, -, -, -, -, w5, w6, -⟩
      · left
        obtain ⟨M', m1, m2⟩ := flaw_ee h (c := 1) (by omega) (by omega)
        obtain ⟨x, hx⟩ := roomsD_e M'
        rw [w5, w6, bind_s, bind_s, bif_f, show (1 : Int32) = I ((1 : Nat) : Int) from rfl, m1, bind_s, advance_e m2.ne, bind_s, bind_s]
        unfold Mod_readLimit
        rw [hx, bind_s, readNumber_e m2.ne m2.val, bind_s, readNumber_e m2.ne m2.val, bind_s, if_neg m2.ne, bind_s, expect_e m2.ne]
        exact ⟨1, t, v, M', by omega, by omega, rfl, rfl, m2⟩
      · rw [w5, w6, bind_s, bind_s, bif_t, check_t, bind_s, advance_0 h.2.2.2]
        have := limit_rc h hv hr hfe
        have as2 : ∀ x : Option ModelV, (Option.bind x fun p11 => some p11) = x := fun x => by cases x <;> rfl
        rw [as2]
        exact this
    · rw [w3, w4, bind_s, bind_s, bif_t, bif_t]
      exact guard_rc h hv hr hfe
  · rw [w1, w2, bind_s, bind_s, bif_t, bif_t]
    exact door_rc h hv hr hfe
theorem m26_e (h : ¬ Model_error M = 0) (n : Nat) : Mod_readAll_26 (n + 1) M = some M := by
  rw [Mod_readAll_26, if_neg h]
/-- the clauses -/
theorem clauses_ss : ∀ (q c n1 n2 : Nat) (t : ToksV) (M : ModelV) (v : HouseV) (f e k : Nat), l = f + q → c ≤ f → q + 1 < n1 → q + 1 < n2 → SS K T t M l f e k → HOK v → RelM (Model_draft M) v → (∃ (c' : Nat) (t' : ToksV) (v' : HouseV) (M' : ModelV), 1 ≤ c' ∧ c' ≤ 4 ∧ HRead_readHouse_63 n1 0 (I (c : Int)) t v = some (I (c' : Int), t', v') ∧ Mod_readAll_26 n2 M = some M' ∧ EE K T t' M' c') ∨ (∃ (t' : ToksV) (v' : HouseV) (M' : ModelV) (f' e' : Nat), HRead_readHouse_63 n1 0 (I (c : Int)) t v = some (0, t', v') ∧ Mod_readAll_26 n2 M = some M' ∧ SS K T t' M' l f' e' 0 ∧ HOK v' ∧ RelM (Model_draft M') v') := by
  intro q
  induction q using Nat.strongRecOn with
  | ind q ih =>
    intro c n1 n2 t M v f e k hl hc h1 h2 h hv hr
    obtain ⟨n1, rfl⟩ : ∃ q, n1 = q + 2 := ⟨n1 - 2, by omega⟩
    obtain ⟨n2, rfl⟩ : ∃ q, n2 = q + 2 := ⟨n2 - 2, by omega⟩
    have t1 := h.1
    have hl6 := t1.1.2.2.1
    by_cases hk : k = 0
    · right
      subst hk
      rw [HRead_readHouse_63, Mod_readAll_26, if_pos h.2.2.2, if_pos ((km0 t1).mpr rfl)]
      refine ⟨t, v, M, f, e, ?_, rfl, h, hv, hr⟩
      by_cases c6 : (600 : Int32) ≤ I (c : Int)
      · rw [if_pos c6]
      · rw [if_neg c6, if_pos rfl, isEnd_tk t1, bind_s]
        rfl
    · have hfe : f < e := by
        have := t1.2.2.2.2.2.2.2.2.1
        omega
      have hel : e ≤ l := t1.2.2.2.2.2.1
      have hcls := clause_rc h hv hr hk
      have hmod : Mod_readAll_26 (n2 + 2) M = Option.bind (Option.bind (Mod_isWord 46 M) fun p44 => bif p44 then Option.bind (Mod_readDoor M) (fun p => Mod_expect 59 p) else Option.bind (Mod_isWord 47 M) fun p61 => bif p61 then Option.bind (Mod_readGuard M) (fun p => Mod_expect 59 p) else Option.bind (Option.bind (Mod_expectWord 34 M) Mod_readLimit) fun p => Mod_expect 59 p) (Mod_readAll_26 (n2 + 1)) := by
        rw [Mod_readAll_26, if_pos h.2.2.2, if_neg fun q => hk ((km0 t1).mp q)]
        unfold Mod_readAll_84
        cases Mod_isWord 46 M with
        | none => rfl
        | some b =>
          rw [bind_s, bind_s]
          cases b
          · rw [bif_f, bif_f]
            cases Mod_isWord 47 M with
            | none => rfl
            | some b =>
              rw [bind_s, bind_s]
              cases b
              · rw [bif_f, bif_f]
                cases Mod_expectWord 34 M with
                | none => rfl
                | some p =>
                  rw [bind_s, bind_s]
                  cases Mod_readLimit p <;> rfl
              · rw [bif_t, bif_t]
                cases Mod_readGuard M <;> rfl
          · rw [bif_t, bif_t]
            cases Mod_readDoor M <;> rfl
      rw [hmod, HRead_readHouse_63, if_neg (show ¬ (600 : Int32) ≤ I (c : Int) from I_le_f (a := 600) (b := (c : Int)) (by omega) (by omega) (by omega)), if_pos rfl, isEnd_tk t1, bind_s, decide_eq_false hk, bif_f]
      rcases hcls with ⟨c', t', v', M', b1, b2, b3, b4, b5⟩ | ⟨t', v', M', f', e', k', b1, b2, b3, b4, b5, b6⟩
      · left
        rw [b3, b4, bind_s, bind_s, nmL_e, m26_e b5.ne]
        refine ⟨c', t', v', M', b1, b2, ?_, rfl, b5⟩
        rw [HRead_readHouse_63]
        by_cases c6 : (600 : Int32) ≤ I (c : Int) + 1
        · rw [if_pos c6]
        · rw [if_neg c6, if_neg b5.c0]
      · rw [b1, b2, bind_s, bind_s, nmL_e, I_succ]
        have hf' : f' ≤ l := by
          have := b3.1.2.2.2.2.2.2.2.2.1
          have := b3.1.2.2.2.2.2.1
          omega
        exact ih (l - f') (by omega) (c + 1) (n1 + 1) (n2 + 1) t' M' v' f' e' k' (by omega) (by omega) (by omega) (by omega) b3 b5 b6
end READ2
