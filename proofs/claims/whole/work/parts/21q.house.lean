section RHOUSE
variable {K : KT} {T : TT} {t : ToksV} {M : ModelV} {l f e k : Nat} {v : HouseV} {m : Nat → Int32}
/-- an empty draft -/
def CL (c : Nat → Int32) : Prop := (∀ r, r < 12 → c (4 + 5 * r) = 99 ∧ c (5 + 5 * r) = 0 ∧ c (6 + 5 * r) = -1 ∧ c (7 + 5 * r) = 0 ∧ c (8 + 5 * r) = 0) ∧ c 1 = 0 ∧ c 2 = 0 ∧ c 3 = 0
theorem clear21_l : ∀ (q k n : Nat) (c : Nat → Int32), 12 = k + q → q < n → (∀ i, i < 172 → (i < 4 + 5 * k → True) → 4 + 5 * k ≤ i → c i = 0) → (∀ r, r < k → c (4 + 5 * r) = 99 ∧ c (5 + 5 * r) = 0 ∧ c (6 + 5 * r) = -1 ∧ c (7 + 5 * r) = 0 ∧ c (8 + 5 * r) = 0) → c 1 = 0 ∧ c 2 = 0 ∧ c 3 = 0 → ∃ c', Mod_clear_21 n (I (k : Int)) c = some c' ∧ CL c' := by
  intro q
  induction q with
  | zero =>
    intro k n c hk hn h1 h2 h3
    obtain ⟨n, rfl⟩ : ∃ q, n = q + 1 := ⟨n - 1, by omega⟩
    rw [Mod_clear_21, I12, if_pos (I_le_t (by omega) (by omega) (by omega))]
    exact ⟨c, rfl, fun r hr => h2 r (by omega), h3⟩
  | succ q ih =>
    intro k n c hk hn h1 h2 h3
    obtain ⟨n, rfl⟩ : ∃ q, n = q + 1 := ⟨n - 1, by omega⟩
    rw [Mod_clear_21, I12, if_neg (I_le_f (by omega) (by omega) (by omega)), ra0, bind_s, gd_I (by omega) (by omega) (by omega), I_clamp _ (by omega), nmL_e, ra2, bind_s, gd_I (by omega) (by omega) (by omega), I_clamp _ (by omega), nmL_e, nmL_e, I_succ]
    refine ih (k + 1) n _ (by omega) (by omega) (fun i h4 _ h5 => ?_) (fun r hr => ?_) ?_
    · rw [upd_n (by omega), upd_n (by omega)]
      exact h1 i h4 (fun _ => trivial) (by omega)
    · by_cases c : r = k
      · subst c
        rw [upd_n (by omega), upd_i, upd_n (by omega), upd_n (by omega), upd_i, upd_n (by omega), upd_n (by omega), upd_n (by omega), upd_n (by omega)]
        exact ⟨rfl, h1 _ (by omega) (fun _ => trivial) (by omega), rfl, h1 _ (by omega) (fun _ => trivial) (by omega), h1 _ (by omega) (fun _ => trivial) (by omega)⟩
      · rw [upd_n (by omega), upd_n (by omega), upd_n (by omega), upd_n (by omega), upd_n (by omega), upd_n (by omega), upd_n (by omega), upd_n (by omega), upd_n (by omega), upd_n (by omega)]
        exact h2 r (by omega)
    · rw [upd_n (by omega), upd_n (by omega), upd_n (by omega), upd_n (by omega), upd_n (by omega), upd_n (by omega)]
      exact h3
theorem clear2_l : ∀ (q k n : Nat) (c : Nat → Int32), 172 = k + q → q < n → (∀ i, i < k → c i = 0) → ∃ c', Mod_clear_2 n (I (k : Int)) c = some c' ∧ CL c' := by
  intro q
  induction q with
  | zero =>
    intro k n c hk hn h1
    obtain ⟨n, rfl⟩ : ∃ q, n = q + 1 := ⟨n - 1, by omega⟩
    rw [Mod_clear_2, I172, if_pos (I_le_t (by omega) (by omega) (by omega))]
    exact clear21_l 12 0 FU c (by omega) (by unfold FU; omega) (fun i h2 _ _ => h1 i (by omega)) (fun r hr => absurd hr (by omega)) ⟨h1 1 (by omega), h1 2 (by omega), h1 3 (by omega)⟩
  | succ q ih =>
    intro k n c hk hn h1
    obtain ⟨n, rfl⟩ : ∃ q, n = q + 1 := ⟨n - 1, by omega⟩
    rw [Mod_clear_2, I172, if_neg (I_le_f (by omega) (by omega) (by omega)), gd_I (by omega) (by omega) (by omega), I_clamp _ (by omega), nmL_e, nmL_e, I_succ]
    refine ih (k + 1) n _ (by omega) (by omega) fun i hi => ?_
    by_cases c : i = k
    · rw [c, upd_i]
    · rw [upd_n c]; exact h1 i (by omega)
theorem clear_m (c : Nat → Int32) : ∃ c', Mod_clear c = some c' ∧ CL c' := clear2_l 172 0 FU c (by omega) (by unfold FU; omega) fun i hi => absurd hi (by omega)
/-- a house begun -/
theorem begin_ok {a : Nat} (h1 : 1 ≤ a) (h12 : a ≤ 12) (v : HouseV) : ∃ w, House_begin (I (a : Int)) v = some w ∧ HOK w ∧ ∀ m : Nat → Int32, CL m → RelM (upd m 0 (I (a : Int))) w := by
  obtain ⟨x, hx⟩ : ∃ x, x = I (a : Int) := ⟨_, rfl⟩
  unfold House_begin
  rw [← hx]
  simp only [nmL_e]
  obtain ⟨j1, e1, g1⟩ := fill_s (x := 0) (N := 12) (by decide) (House_joined (House_set_openDoors (House_set_minute (House_set_guards (House_set_doors (House_set_rooms v x) 0) 0) 0) 0))
  rw [e1, bind_s]
  obtain ⟨j2, e2, g2⟩ := fill_s (x := 99) (N := 12) (by decide) (House_limits (House_set_joined (House_set_openDoors (House_set_minute (House_set_guards (House_set_doors (House_set_rooms v x) 0) 0) 0) 0) j1))
  rw [e2, bind_s]
  obtain ⟨j3, e3, g3⟩ := fill_s (x := 0) (N := 12) (by decide) (House_sightings (House_set_limits (House_set_joined (House_set_openDoors (House_set_minute (House_set_guards (House_set_doors (House_set_rooms v x) 0) 0) 0) 0) j1) j2))
  rw [e3, bind_s]
  obtain ⟨j4, e4, g4⟩ := fill_s (x := -1) (N := 12) (by decide) (House_lastSeen (House_set_sightings (House_set_limits (House_set_joined (House_set_openDoors (House_set_minute (House_set_guards (House_set_doors (House_set_rooms v x) 0) 0) 0) 0) j1) j2) j3))
  rw [e4, bind_s]
  obtain ⟨j5, e5, g5⟩ := fill_s (x := 0) (N := 12) (by decide) (House_runs (House_set_lastSeen (House_set_sightings (House_set_limits (House_set_joined (House_set_openDoors (House_set_minute (House_set_guards (House_set_doors (House_set_rooms v x) 0) 0) 0) 0) j1) j2) j3) j4))
  rw [e5, bind_s]
  obtain ⟨j6, e6, g6⟩ := fill_s (x := 0) (N := 12) (by decide) (House_longestRuns (House_set_runs (House_set_lastSeen (House_set_sightings (House_set_limits (House_set_joined (House_set_openDoors (House_set_minute (House_set_guards (House_set_doors (House_set_rooms v x) 0) 0) 0) 0) j1) j2) j3) j4) j5))
  rw [e6, bind_s]
  refine ⟨_, rfl, ?_⟩
  clear e1 e2 e3 e4 e5 e6
  have f1 : House_rooms (House_set_longestRuns (House_set_runs (House_set_lastSeen (House_set_sightings (House_set_limits (House_set_joined (House_set_openDoors (House_set_minute (House_set_guards (House_set_doors (House_set_rooms v x) 0) 0) 0) 0) j1) j2) j3) j4) j5) j6) = x := by rw [Ho_rooms_longestRuns, Ho_rooms_runs, Ho_rooms_lastSeen, Ho_rooms_sightings, Ho_rooms_limits, Ho_rooms_joined, Ho_rooms_openDoors, Ho_rooms_minute, Ho_rooms_guards, Ho_rooms_doors, Ho_rooms_rooms]
  have f2 : House_doors (House_set_longestRuns (House_set_runs (House_set_lastSeen (House_set_sightings (House_set_limits (House_set_joined (House_set_openDoors (House_set_minute (House_set_guards (House_set_doors (House_set_rooms v x) 0) 0) 0) 0) j1) j2) j3) j4) j5) j6) = 0 := by rw [Ho_doors_longestRuns, Ho_doors_runs, Ho_doors_lastSeen, Ho_doors_sightings, Ho_doors_limits, Ho_doors_joined, Ho_doors_openDoors, Ho_doors_minute, Ho_doors_guards, Ho_doors_doors]
  have f3 : House_guards (House_set_longestRuns (House_set_runs (House_set_lastSeen (House_set_sightings (House_set_limits (House_set_joined (House_set_openDoors (House_set_minute (House_set_guards (House_set_doors (House_set_rooms v x) 0) 0) 0) 0) j1) j2) j3) j4) j5) j6) = 0 := by rw [Ho_guards_longestRuns, Ho_guards_runs, Ho_guards_lastSeen, Ho_guards_sightings, Ho_guards_limits, Ho_guards_joined, Ho_guards_openDoors, Ho_guards_minute, Ho_guards_guards]
  have f4 : House_minute (House_set_longestRuns (House_set_runs (House_set_lastSeen (House_set_sightings (House_set_limits (House_set_joined (House_set_openDoors (House_set_minute (House_set_guards (House_set_doors (House_set_rooms v x) 0) 0) 0) 0) j1) j2) j3) j4) j5) j6) = 0 := by rw [Ho_minute_longestRuns, Ho_minute_runs, Ho_minute_lastSeen, Ho_minute_sightings, Ho_minute_limits, Ho_minute_joined, Ho_minute_openDoors, Ho_minute_minute]
  have f5 : House_openDoors (House_set_longestRuns (House_set_runs (House_set_lastSeen (House_set_sightings (House_set_limits (House_set_joined (House_set_openDoors (House_set_minute (House_set_guards (House_set_doors (House_set_rooms v x) 0) 0) 0) 0) j1) j2) j3) j4) j5) j6) = 0 := by rw [Ho_openDoors_longestRuns, Ho_openDoors_runs, Ho_openDoors_lastSeen, Ho_openDoors_sightings, Ho_openDoors_limits, Ho_openDoors_joined, Ho_openDoors_openDoors]
  have f6 : House_joined (House_set_longestRuns (House_set_runs (House_set_lastSeen (House_set_sightings (House_set_limits (House_set_joined (House_set_openDoors (House_set_minute (House_set_guards (House_set_doors (House_set_rooms v x) 0) 0) 0) 0) j1) j2) j3) j4) j5) j6) = j1 := by rw [Ho_joined_longestRuns, Ho_joined_runs, Ho_joined_lastSeen, Ho_joined_sightings, Ho_joined_limits, Ho_joined_joined]
  have f7 : House_limits (House_set_longestRuns (House_set_runs (House_set_lastSeen (House_set_sightings (House_set_limits (House_set_joined (House_set_openDoors (House_set_minute (House_set_guards (House_set_doors (House_set_rooms v x) 0) 0) 0) 0) j1) j2) j3) j4) j5) j6) = j2 := by rw [Ho_limits_longestRuns, Ho_limits_runs, Ho_limits_lastSeen, Ho_limits_sightings, Ho_limits_limits]
  have f8 : House_sightings (House_set_longestRuns (House_set_runs (House_set_lastSeen (House_set_sightings (House_set_limits (House_set_joined (House_set_openDoors (House_set_minute (House_set_guards (House_set_doors (House_set_rooms v x) 0) 0) 0) 0) j1) j2) j3) j4) j5) j6) = j3 := by rw [Ho_sightings_longestRuns, Ho_sightings_runs, Ho_sightings_lastSeen, Ho_sightings_sightings]
  have f9 : House_lastSeen (House_set_longestRuns (House_set_runs (House_set_lastSeen (House_set_sightings (House_set_limits (House_set_joined (House_set_openDoors (House_set_minute (House_set_guards (House_set_doors (House_set_rooms v x) 0) 0) 0) 0) j1) j2) j3) j4) j5) j6) = j4 := by rw [Ho_lastSeen_longestRuns, Ho_lastSeen_runs, Ho_lastSeen_lastSeen]
  have f10 : House_runs (House_set_longestRuns (House_set_runs (House_set_lastSeen (House_set_sightings (House_set_limits (House_set_joined (House_set_openDoors (House_set_minute (House_set_guards (House_set_doors (House_set_rooms v x) 0) 0) 0) 0) j1) j2) j3) j4) j5) j6) = j5 := by rw [Ho_runs_longestRuns, Ho_runs_runs]
  have f11 : House_longestRuns (House_set_longestRuns (House_set_runs (House_set_lastSeen (House_set_sightings (House_set_limits (House_set_joined (House_set_openDoors (House_set_minute (House_set_guards (House_set_doors (House_set_rooms v x) 0) 0) 0) 0) j1) j2) j3) j4) j5) j6) = j6 := by rw [Ho_longestRuns_longestRuns]
  revert f1 f2 f3 f4 f5 f6 f7 f8 f9 f10 f11
  generalize House_set_longestRuns (House_set_runs (House_set_lastSeen (House_set_sightings (House_set_limits (House_set_joined (House_set_openDoors (House_set_minute (House_set_guards (House_set_doors (House_set_rooms v x) 0) 0) 0) 0) j1) j2) j3) j4) j5) j6 = w
  intro f1 f2 f3 f4 f5 f6 f7 f8 f9 f10 f11
  have gR : hR w = a := by unfold hR; rw [f1, hx]; exact I_clamp a (by omega)
  have gD : hD w = 0 := by unfold hD; rw [f2]; rfl
  have gG : hG w = 0 := by unfold hG; rw [f3]; rfl
  have gM : hM w = 0 := by unfold hM; rw [f4]; rfl
  have gO : hO w = 0 := by unfold hO; rw [f5]; rfl
  refine ⟨⟨?_, fun d hd => absurd hd (by omega), fun r hr => ?_, fun r hr => ?_, fun g hg => absurd hg (by omega), fun r hr => ?_⟩, fun m ⟨m1, m2, m3, m4⟩ => ?_⟩
  · unfold WFn
    rw [gR, gD, gG, gM, gO, f1, f2, f3, f4, f5]
    exact ⟨hx, h1, h12, rfl, by omega, rfl, by omega, rfl, by omega, rfl, by decide⟩
  · rw [f6, g1 r hr]
    have : jm w r = 0 := by unfold jm; rw [gD]; rfl
    rw [this]; rfl
  · have : hL w r = 99 := by unfold hL; rw [f7, g2 r hr]; rfl
    rw [this, f7, g2 r hr]
    exact ⟨rfl, by omega⟩
  · rw [f8, f9, f10, f11, g3 r hr, g4 r hr, g5 r hr, g6 r hr, gM]
    exact ⟨0, 0, 0, -1, rfl, by omega, rfl, by omega, rfl, by omega, rfl, by omega, by omega⟩
  · unfold RelM
    rw [gD, gG, f1, f2, f3, f4, f7, f8, f9, f10, f11, hx]
    refine ⟨upd_i, ?_, ?_, ?_, fun r hr => ?_, fun d hd => absurd hd (by omega), fun g hg => absurd hg (by omega)⟩
    · rw [upd_n (by omega)]; exact m2
    · rw [upd_n (by omega)]; exact m3
    · rw [upd_n (by omega)]; exact m4
    · rw [upd_n (by omega), upd_n (by omega), upd_n (by omega), upd_n (by omega), upd_n (by omega), g2 r hr, g3 r hr, g4 r hr, g5 r hr, g6 r hr]
      exact m1 r hr
/-- how the two read a text -/
def RT (K : KT) (T : TT) (l : Nat) (cls : Option (Int32 × ToksV × HouseV)) (mod : ModelV → Prop) : Prop :=
  (∃ (c : Nat) (t' : ToksV) (v' : HouseV) (M' : ModelV), 1 ≤ c ∧ c ≤ 4 ∧ cls = some (I (c : Int), t', v') ∧ mod M' ∧ EE K T t' M' c) ∨
  (∃ (t' : ToksV) (v' : HouseV) (M' : ModelV) (f' e' : Nat), cls = some (0, t', v') ∧ mod M' ∧ SS K T t' M' l f' e' 0 ∧ HOK v' ∧ RelM (Model_draft M') v')
/-- a house -/
theorem readHouse_ss (h : SS K T t M l f e k) (hc : CL (Model_draft M)) (v : HouseV) : RT K T l (HRead_readHouse t v) fun M' => Mod_readAll M = some M' := by
  have hl6 := h.1.1.2.2.1
  obtain ⟨n, hn⟩ : ∃ n, FU = n + 1 := ⟨FU - 1, rfl⟩
  unfold HRead_readHouse Mod_readAll Mod_expectWord
  have as2 : ∀ x : Option ModelV, (Option.bind x fun p11 => some p11) = x := fun x => by cases x <;> rfl
  rcases word_ss h (i := 9) (j := 45) st9 (by decide) (by decide) (by decide) with ⟨w1, w2, -⟩ | ⟨t1, M1, f1, e1, k1, w1, w2, a1, a2, -, a3, a4, a5, a6, -, -⟩
  · left
    obtain ⟨M', m1, m2⟩ := flaw_ee h (c := 1) (by omega) (by omega)
    refine ⟨1, t, v, _, by omega, by omega, by rw [w1, bind_s, bif_f]; rfl, ?_, m2.draft (upd (Model_draft M') (Int32.toNatClampNeg 0) 1)⟩
    rw [w2, bind_s, show (1 : Int32) = I ((1 : Nat) : Int) from rfl, m1, bind_s, advance_e m2.ne, bind_s, bind_s, readNumber_e m2.ne m2.val, bind_s, gd_t (show inB (0 : Int32) 172 = true from rfl), nmL_e, expect_e (m2.draft _).ne, bind_s, hn, m26_e (m2.draft _).ne]
  · have hc1 : CL (Model_draft M1) := by rw [a6.1]; exact hc
    rw [w1, w2, bind_s, bind_s, bif_t, a1, bind_s, check_t, bind_s, advance_0 h.2.2.2, a2, bind_s, bind_s]
    rcases num_ss a3 (lo := 1) (hi := 12) (by omega) (by omega) (by omega) (by omega) with ⟨c, M2, n0, n1, n2, n3⟩ | ⟨a, t2, M2, f2, e2, k2, n1, n2, n3, n4, n5, n6, n7, n8, n9, n10, -⟩
    · left
      have n1' : Toks_numberCode 1 12 t1 = some (I (c : Int)) := n1
      have n2' : Mod_readNumber 1 12 M1 = some (I 1, M2) := n2
      rw [n1', bind_s, if_neg n3.c0, n2', bind_s, gd_t (show inB (0 : Int32) 172 = true from rfl), nmL_e, expect_e (n3.draft _).ne, bind_s, hn, m26_e (n3.draft _).ne]
      exact ⟨c, t1, v, _, n0, n3.2.2.2.2.1, rfl, rfl, n3.draft _⟩
    · have n1' : Toks_numberCode 1 12 t1 = some 0 := n1
      have n6' : Mod_readNumber 1 12 M1 = some (I (a : Int), M2) := n6
      obtain ⟨w, w3, w4, w5⟩ := begin_ok (a := a) (by omega) (by omega) v
      rw [n1', bind_s, if_pos rfl, n4, w3, bind_s, n5, bind_s, n6', bind_s, gd_t (show inB (0 : Int32) 172 = true from rfl), nmL_e]
      have ss := n7.draft (upd (Model_draft M2) (Int32.toNatClampNeg 0) (I (a : Int)))
      have rl : RelM (Model_draft (Model_set_draft M2 (upd (Model_draft M2) (Int32.toNatClampNeg 0) (I (a : Int))))) w := by
        rw [Mo_draft_draft, n10.1]
        exact w5 _ hc1
      rcases semi_ss ss with ⟨M', s1, s2, s3⟩ | ⟨t', M', f', e', k', s1, s2, s3, s4, s5, s6⟩
      · left
        rw [s1, s2, bind_s, bind_s, hn, m26_e s3.ne, HRead_readHouse_63, if_neg (by decide), if_neg (show ¬ (1 : Int32) = 0 by decide)]
        exact ⟨1, t2, w, M', by omega, by omega, rfl, rfl, s3⟩
      · rw [s1, s2, bind_s, bind_s]
        have hf' : f' ≤ l := by
          have := s3.1.2.2.2.2.2.2.2.2.1
          have := s3.1.2.2.2.2.2.1
          omega
        rcases clauses_ss (l - f') 0 FU FU t' M' w f' e' k' (by omega) (by omega) (by unfold FU; omega) (by unfold FU; omega) s3 w4 (by rw [s6.1]; exact rl) with ⟨c', t3, v3, M3, q1, q2, q3, q4, q5⟩ | ⟨t3, v3, M3, f3, e3, q3, q4, q5, q6, q7⟩
        · left
          exact ⟨c', t3, v3, M3, q1, q2, q3, q4, q5⟩
        · right
          exact ⟨t3, v3, M3, f3, e3, q3, q4, q5, q6, q7⟩
theorem ch96 (M : ModelV) (x : Int32) : Mod_change_96 x M = Mod_change_101 x 1 M := rfl
theorem ch101_f {N : ModelV} (x : Int32) (h : Mod_check false 1 M = some N) : Mod_change_101 x 0 M = Mod_change_101 x 1 N := by
  unfold Mod_change_101
  rw [asB_0, asB_1, h, check_t]
theorem ch81_e (h : ¬ Model_error M = 0) (x : Int32) : Mod_change_81 x M = Mod_change_101 x 1 M := by
  unfold Mod_change_81
  rw [if_neg h, ch96]
/-- a change -/
theorem readChange_ss (h : SS K T t M l f e k) (hv : HOK v) (hr : RelM (Model_draft M) v) (x1 : Int32) : RT K T l (HRead_readChange t v) fun M' => (Option.bind (Mod_expectWord 48 M) fun p53 => Option.bind (Mod_guardsD p53) fun p59 => Option.bind (Mod_readNumber 0 (p59 - 1) p53) fun p64 => if Model_error p64.2 = 0 then Option.bind (Mod_readWalk p64.1 true p64.2) fun p78 => Mod_change_81 x1 p78 else Mod_change_81 x1 p64.2) = Mod_change_101 x1 1 M' := by
  have hn := hv.1
  have hG4 : hG v ≤ 4 := hn.2.2.2.2.2.2.1
  have eG : House_guards v = I (hG v : Int) := hn.2.2.2.2.2.1
  have gD : ∀ N : ModelV, ∃ x, Mod_guardsD N = some x := fun N => by
    unfold Mod_guardsD
    rw [gd_t (show inB (2 : Int32) 172 = true from rfl)]
    exact ⟨_, rfl⟩
  unfold HRead_readChange Mod_expectWord
  rcases word_ss h (i := 10) (j := 48) st10 (by decide) (by decide) (by decide) with ⟨w1, w2, -⟩ | ⟨t1, M1, f1, e1, k1, w1, w2, a1, a2, -, a3, a4, a5, a6, -, -⟩
  · left
    obtain ⟨M', m1, m2⟩ := flaw_ee h (c := 1) (by omega) (by omega)
    obtain ⟨y, hy⟩ := gD M'
    refine ⟨1, t, v, M', by omega, by omega, by rw [w1, bind_s, bif_f]; rfl, ?_, m2⟩
    rw [w2, bind_s, show (1 : Int32) = I ((1 : Nat) : Int) from rfl, m1, bind_s, advance_e m2.ne, bind_s, bind_s, hy, bind_s, readNumber_e m2.ne m2.val, bind_s]
    dsimp only
    rw [if_neg m2.ne, ch81_e m2.ne]
    rfl
  · have hr1 : RelM (Model_draft M1) v := by rw [a6.1]; exact hr
    have eM1 : Mod_guardsD M1 = some (I (hG v : Int)) := by
      unfold Mod_guardsD
      rw [gd_t (show inB (2 : Int32) 172 = true from rfl)]
      exact congrArg some (hr1.2.2.1.trans eG)
    rw [w1, w2, bind_s, bind_s, bif_t, a1, bind_s, check_t, bind_s, advance_0 h.2.2.2, a2, bind_s, bind_s, eM1, bind_s, eG, I1, I_sub]
    rcases num_ss a3 (lo := 0) (hi := (hG v : Int) - 1) (by omega) (by omega) (by omega) (by omega) with ⟨c, M2, n0, n1, n2, n3⟩ | ⟨a, t2, M2, f2, e2, k2, n1, n2, n3, n4, n5, n6, n7, n8, n9, n10, -⟩
    · left
      have n1' : Toks_numberCode 0 (I ((hG v : Int) - 1)) t1 = some (I (c : Int)) := n1
      have n2' : Mod_readNumber 0 (I ((hG v : Int) - 1)) M1 = some (0, M2) := n2
      rw [n1', bind_s, if_neg n3.c0, n2', bind_s]
      dsimp only
      rw [if_neg n3.ne, ch81_e n3.ne]
      exact ⟨c, t1, v, M2, n0, n3.2.2.2.2.1, rfl, rfl, n3⟩
    · have n1' : Toks_numberCode 0 (I ((hG v : Int) - 1)) t1 = some 0 := n1
      have n6' : Mod_readNumber 0 (I ((hG v : Int) - 1)) M1 = some (I (a : Int), M2) := n6
      rw [n1', bind_s, if_pos rfl, nmL_e, n4, n5, bind_s, n6', bind_s]
      dsimp only
      rw [if_pos n7.2.2.2]
      have hag : a < hG v := by omega
      have hr2 : RelM (Model_draft M2) v := by rw [n10.1]; exact hr1
      have bw : BW v a := ⟨hv.1, hv.2.1, hv.2.2.1, hv.2.2.2.1, hv.2.2.2.2.2, fun g' hg _ => hv.2.2.2.2.1 g' hg⟩
      have br := rel_br hr2 a
      rcases walk_ss n7 bw hag br true with ⟨c, t3, v3, M3, b1, b2, b3, b4, b5⟩ | ⟨t3, v3, M3, f3, e3, k3, b1, b2, b3, b4, b5, b6, b7, b8, b9, b10, b11⟩
      · left
        rw [b3, b4, bind_s, bind_s, if_neg b5.c0, ch81_e b5.ne]
        exact ⟨c, t3, v3, M3, b1, b2, rfl, rfl, b5⟩
      · rw [b1, b2, bind_s, bind_s, if_pos rfl, isEnd_tk b3.1, bind_s]
        unfold Mod_change_81
        rw [if_pos b3.2.2.2]
        have hok := hok_of bw b5 b6 b7 b8 b9
        have hrel : RelM (Model_draft M3) v3 := by
          refine br_rel (b5.bw bw) (b5.br bw b10 br (by omega)) b11 b6 (fun i hi h2 => rfl) ?_
          rw [b5.2.2.1, b10 2 (Or.inl (by omega))]
          exact hr2.2.2.1
        by_cases c : k3 = 0
        · right
          subst c
          rw [decide_eq_true rfl, bif_t, if_pos ((km0 b3.1).mpr rfl), ch96]
          exact ⟨t3, v3, M3, f3, e3, rfl, rfl, b3, hok, hrel⟩
        · left
          obtain ⟨M', m1, m2⟩ := flaw_ee b3 (c := 1) (by omega) (by omega)
          rw [decide_eq_false c, bif_f, if_neg fun q => c ((km0 b3.1).mp q)]
          exact ⟨1, t3, v3, M', by omega, by omega, rfl, ch101_f x1 m1, m2⟩
end RHOUSE
