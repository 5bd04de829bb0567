section CASES13
variable {n c L : Nat} {k23 : K23} {xs : Nat → Int32} {v0 : GWV} {v1 v2 v5 v9 : HouseV} {v3 : HistV} {v4 : Nat → HouseV} {v6 v7 v10 : SightV} {v8 : BestV} {v11 : IntrV} {v12 : ToksV} {v14 : QReadV} {v15 v16 : Nat → Int32} {v17 M' : ModelV} {v19 : Nat → Int64}
theorem sp_self (v : HouseV) : House_set_phases v (House_phases v) = v := rfl
theorem arePair22_m {v : HouseV} {M : ModelV} (hv : HOK v) (hr : RelM (Model_now M) v) {z w : Int} (z1 : -2147483648 ≤ z) (z2 : z ≤ 2147483647) (w1 : -2147483648 ≤ w) (w2 : w ≤ 2147483647) (s0 : Int32) : ∃ P, Mod_arePair_22 (I z) (I w) s0 M = some (decide (s0 = 0 ∧ z ≠ w), P) ∧ RelM (Model_now P) v ∧ PhM P v (hF v) ∧ Model_cycleNow P = I (cyc v : Int) ∧ Model_thrown P = s0 ∧ kpA P = kpA M := by
  obtain ⟨hn, hd, hj, hl, hw, hs⟩ := hv
  have hr0 : RelM (Model_now (Model_set_thrown M s0)) v := by rw [Mo_now_thrown]; exact hr
  obtain ⟨f, t1, t2⟩ := takePhases_m (M := Model_set_thrown M s0) hr0 hn
  have hr1 : RelM (Model_now (Model_set_phases (Model_set_thrown M s0) f)) v := rel_ph hr0
  have hP : ∃ P, P = Model_set_cycleNow (Model_set_phases (Model_set_thrown M s0) f) (I (cyc v : Int)) ∧ RelM (Model_now P) v ∧ PhM P v (hF v) ∧ Model_cycleNow P = I (cyc v : Int) ∧ Model_thrown P = s0 ∧ kpA P = kpA M := by
    refine ⟨_, rfl, ?_, ?_, Mo_cycleNow_cycleNow _ _, ?_, ?_⟩
    · rw [Mo_now_cycleNow]; exact hr1
    · intro g hg
      rw [Mo_phases_cycleNow]
      exact PhM.of (M := Model_set_thrown M s0) hw t2 g hg
    · rw [Mo_thrown_cycleNow, Mo_thrown_phases, Mo_thrown_thrown]
    · exact (congrArg (fun q => q.2) ((kp_cycleNow (Model_set_phases (Model_set_thrown M s0) f) (I (cyc v : Int))).trans (kp_phases (Model_set_thrown M s0) f))).trans (kpA_thr _ _)
  obtain ⟨P, p0, p1, p2, p3, p4, p5⟩ := hP
  unfold Mod_arePair_22
  rw [nmL_e, t1, bind_s, cycle_m hr1 hn hw, bind_s, nmL_e, ← p0, p4]
  refine ⟨P, ?_, p1, p2, p3, p4, p5⟩
  by_cases e : s0 = 0
  · rw [if_pos e]
    by_cases e2 : z = w
    · rw [if_pos (congrArg I e2), decide_eq_false (fun h => h.2 e2)]
    · rw [if_neg (I_ne e2 z1 z2 w1 w2), decide_eq_true ⟨e, e2⟩]
  · rw [if_neg e, decide_eq_false (fun h => e h.1)]
theorem arePair_m {v : HouseV} {M : ModelV} (hv : HOK v) (hr : RelM (Model_now M) v) {z w : Int} (z1 : -2147483648 ≤ z) (z2 : z ≤ 2147483647) (w1 : -2147483648 ≤ w) (w2 : w ≤ 2147483647) : ∃ P, Mod_arePair (I z) (I w) M = some (decide (((0 ≤ z ∧ z < hG v) ∧ 0 ≤ w ∧ w < hG v) ∧ z ≠ w), P) ∧ RelM (Model_now P) v ∧ PhM P v (hF v) ∧ Model_cycleNow P = I (cyc v : Int) ∧ Model_thrown P = (if (0 ≤ z ∧ z < hG v) ∧ 0 ≤ w ∧ w < hG v then 0 else 1) ∧ kpA P = kpA M := by
  have hn := hv.1
  unfold Mod_arePair Mod_arePair_21
  rw [isGuard_m hr hn z1 z2, bind_s]
  by_cases c : 0 ≤ z ∧ z < hG v
  · rw [decide_eq_true c, bif_t, isGuard_m hr hn w1 w2, bind_s]
    by_cases c2 : 0 ≤ w ∧ w < hG v
    · obtain ⟨P, q1, q2, q3, q4, q5, q6⟩ := arePair22_m hv hr z1 z2 w1 w2 0
      rw [decide_eq_true c2, bif_t, q1]
      exact ⟨P, congrArg (fun b => some (b, P)) (decide_eq_decide.mpr ⟨fun h => ⟨⟨c, c2⟩, h.2⟩, fun h => ⟨rfl, h.2⟩⟩), q2, q3, q4, by rw [q5, if_pos ⟨c, c2⟩], q6⟩
    · obtain ⟨P, q1, q2, q3, q4, q5, q6⟩ := arePair22_m hv hr z1 z2 w1 w2 1
      rw [decide_eq_false c2, bif_f, q1]
      exact ⟨P, congrArg (fun b => some (b, P)) (decide_eq_decide.mpr ⟨fun h => absurd h.1 (by decide), fun h => absurd h.1.2 c2⟩), q2, q3, q4, by rw [q5, if_neg (fun h => c2 h.2)], q6⟩
  · obtain ⟨P, q1, q2, q3, q4, q5, q6⟩ := arePair22_m hv hr z1 z2 w1 w2 1
    rw [decide_eq_false c, bif_f, q1]
    exact ⟨P, congrArg (fun b => some (b, P)) (decide_eq_decide.mpr ⟨fun h => absurd h.1 (by decide), fun h => absurd h.1.1 c⟩), q2, q3, q4, by rw [q5, if_neg (fun h => c h.1)], q6⟩
/-- meetings -/
theorem meetings_ax {v : HouseV} {M : ModelV} (hv : HOK v) (hr : RelM (Model_now M) v) (g : GWV) (x y : Int32) : AX (fun b => b = false) M (GW_meetings x y g v) (Mod_meetings x y M) := by
  obtain ⟨z, rfl, z1, z2⟩ := sel32 x
  obtain ⟨w, rfl, w1, w2⟩ := sel32 y
  obtain ⟨P, q1, q2, q3, q4, q5, q6⟩ := arePair_m hv hr z1 z2 w1 w2
  obtain ⟨hn, hd, hj, hl, hw, hs⟩ := hv
  have hG4 : hG v ≤ 4 := hn.2.2.2.2.2.2.1
  have hc := cyc_le hw
  unfold GW_meetings Mod_meetings
  rw [needGuard_s hn z1 z2, bind_s, q1, bind_s]
  by_cases c : 0 ≤ z ∧ z < hG v
  · rw [if_pos c]
    unfold exK
    dsimp only
    rw [needGuard_s hn w1 w2, bind_s]
    by_cases c2 : 0 ≤ w ∧ w < hG v
    · obtain ⟨a, rfl⟩ : ∃ d : Nat, z = (d : Int) := ⟨z.toNat, by omega⟩
      obtain ⟨b, rfl⟩ : ∃ d : Nat, w = (d : Int) := ⟨w.toNat, by omega⟩
      have ha : a < hG v := by omega
      have hb : b < hG v := by omega
      have e : House_countPair (I (a : Int)) (I (b : Int)) 1 0 v = some (I (if a = b then 0 else pairTo v a b 1 0 (cyc v))) := countPair_s (mt := 1) (ps := 0) hn hw ha hb
      have q5' : Model_thrown P = 0 := by rw [q5, if_pos ⟨c, c2⟩]
      rw [if_pos c2]
      dsimp only
      rw [e, bind_s]
      left
      by_cases e2 : a = b
      · rw [if_pos e2, decide_eq_false (by omega), bif_f]
        exact ⟨_, P, rfl, rfl, q5', q6⟩
      · have e3 := meetingsOf_m (MV_self q2 hn hw q3) q4 hc ha hb
        rw [sp_self] at e3
        rw [if_neg e2, decide_eq_true (by omega), bif_t, e3, bind_s, pair_m]
        exact ⟨_, P, rfl, rfl, q5', q6⟩
    · rw [if_neg c2, decide_eq_false (fun h => c2 h.1.2), bif_f]
      dsimp only
      exact Or.inr ⟨false, _, P, rfl, rfl, rfl, by rw [q5, if_neg (fun h => c2 h.2)]; rfl, q6⟩
  · rw [if_neg c, decide_eq_false (fun h => c h.1.1), bif_f]
    unfold exK
    dsimp only
    exact Or.inr ⟨false, _, P, rfl, rfl, rfl, by rw [q5, if_neg (fun h => c h.1)]; rfl, q6⟩
theorem case_1089 (h : Inv n v0 v1 v3 v4 v5 v6 v8 v12 v17) (hc : c + 6 ≤ L) (hL : L ≤ 3072) : NX n c k23 (Law_1089 L xs k23 (I (c : Int)) v0 v1 v2 v3 v4 v5 v6 v7 v8 v9 v10 v11 v12 v14 v15 v16 v17 v19) := by
  have h0 := h
  obtain ⟨Φ, Ψ, ls, b, len, a1, a2, a3, a4, a5, a6, a7, a8, a9, a10, a11, a12, a13⟩ := h
  unfold Law_1089
  rw [gd_t (in1 hc hL), gd_t (in2 hc hL)]
  unfold L_meetings
  rcases meetings_ax a3.1 a4 v0 (xs (Int32.toNatClampNeg (I (c : Int) + 1))) (xs (Int32.toNatClampNeg (I (c : Int) + 2))) with ⟨a, M', e1, e2, e3, e4⟩ | ⟨b, x, M', eb, e1, e2, e3, e4⟩
  · rw [e1, bind_s]
    unfold exC
    dsimp only
    rw [gd_t (show inB (0 : Int32) 1 = true from rfl), nmL_e, bind_s, e2, bind_s]
    unfold Mod_thrown
    rw [bind_s]
    dsimp only
    rw [e3, if_pos rfl, if_pos rfl, gd_t (show inB (0 : Int32) 1 = true from rfl), if_pos (show lg_cmp (vp_updL v19 (Int32.toNatClampNeg 0) (Int32.toInt64 a) (Int32.toNatClampNeg 0)) (Int32.toInt64 a) = 0 by rw [updL_i]; exact lg_self _), nmL_e]
    exact ⟨v0, v1, v2, v3, v4, v5, v6, v7, v8, v9, v10, v11, v12, v14, v15, v16, M', _, rfl, h0.keep e4⟩
  · have eb : b = false := eb
    subst eb
    rw [e1, bind_s]
    unfold exC
    dsimp only
    rw [bif_f, bind_s, e2, bind_s]
    unfold Mod_thrown
    rw [bind_s]
    dsimp only
    rw [e3, if_neg (show ¬ (false = true) by decide), if_pos rfl, if_neg (show ¬ (1 : Int32) = 0 by decide), nmL_e]
    exact ⟨v0, v1, v2, v3, v4, v5, v6, v7, v8, v9, v10, v11, v12, v14, v15, v16, M', _, rfl, h0.keep e4⟩
/-- passings -/
theorem passings_ax {v : HouseV} {M : ModelV} (hv : HOK v) (hr : RelM (Model_now M) v) (g : GWV) (x y : Int32) : AX (fun b => b = false) M (GW_passings x y g v) (Mod_passings x y M) := by
  obtain ⟨z, rfl, z1, z2⟩ := sel32 x
  obtain ⟨w, rfl, w1, w2⟩ := sel32 y
  obtain ⟨P, q1, q2, q3, q4, q5, q6⟩ := arePair_m hv hr z1 z2 w1 w2
  obtain ⟨hn, hd, hj, hl, hw, hs⟩ := hv
  have hG4 : hG v ≤ 4 := hn.2.2.2.2.2.2.1
  have hc := cyc_le hw
  unfold GW_passings Mod_passings
  rw [needGuard_s hn z1 z2, bind_s, q1, bind_s]
  by_cases c : 0 ≤ z ∧ z < hG v
  · rw [if_pos c]
    unfold exK
    dsimp only
    rw [needGuard_s hn w1 w2, bind_s]
    by_cases c2 : 0 ≤ w ∧ w < hG v
    · obtain ⟨a, rfl⟩ : ∃ d : Nat, z = (d : Int) := ⟨z.toNat, by omega⟩
      obtain ⟨b, rfl⟩ : ∃ d : Nat, w = (d : Int) := ⟨w.toNat, by omega⟩
      have ha : a < hG v := by omega
      have hb : b < hG v := by omega
      have e : House_countPair (I (a : Int)) (I (b : Int)) 0 1 v = some (I (if a = b then 0 else pairTo v a b 0 1 (cyc v))) := countPair_s (mt := 0) (ps := 1) hn hw ha hb
      have q5' : Model_thrown P = 0 := by rw [q5, if_pos ⟨c, c2⟩]
      rw [if_pos c2]
      dsimp only
      rw [e, bind_s]
      left
      by_cases e2 : a = b
      · rw [if_pos e2, decide_eq_false (by omega), bif_f]
        exact ⟨_, P, rfl, rfl, q5', q6⟩
      · have e3 := passingsOf_m (MV_self q2 hn hw q3) q4 hc ha hb
        rw [sp_self] at e3
        rw [if_neg e2, decide_eq_true (by omega), bif_t, e3, bind_s, pair_p]
        exact ⟨_, P, rfl, rfl, q5', q6⟩
    · rw [if_neg c2, decide_eq_false (fun h => c2 h.1.2), bif_f]
      dsimp only
      exact Or.inr ⟨false, _, P, rfl, rfl, rfl, by rw [q5, if_neg (fun h => c2 h.2)]; rfl, q6⟩
  · rw [if_neg c, decide_eq_false (fun h => c h.1.1), bif_f]
    unfold exK
    dsimp only
    exact Or.inr ⟨false, _, P, rfl, rfl, rfl, by rw [q5, if_neg (fun h => c h.1)]; rfl, q6⟩
theorem case_1157 (h : Inv n v0 v1 v3 v4 v5 v6 v8 v12 v17) (hc : c + 6 ≤ L) (hL : L ≤ 3072) : NX n c k23 (Law_1157 L xs k23 (I (c : Int)) v0 v1 v2 v3 v4 v5 v6 v7 v8 v9 v10 v11 v12 v14 v15 v16 v17 v19) := by
  have h0 := h
  obtain ⟨Φ, Ψ, ls, b, len, a1, a2, a3, a4, a5, a6, a7, a8, a9, a10, a11, a12, a13⟩ := h
  unfold Law_1157
  rw [gd_t (in1 hc hL), gd_t (in2 hc hL)]
  unfold L_passings
  rcases passings_ax a3.1 a4 v0 (xs (Int32.toNatClampNeg (I (c : Int) + 1))) (xs (Int32.toNatClampNeg (I (c : Int) + 2))) with ⟨a, M', e1, e2, e3, e4⟩ | ⟨b, x, M', eb, e1, e2, e3, e4⟩
  · rw [e1, bind_s]
    unfold exC
    dsimp only
    rw [gd_t (show inB (0 : Int32) 1 = true from rfl), nmL_e, bind_s, e2, bind_s]
    unfold Mod_thrown
    rw [bind_s]
    dsimp only
    rw [e3, if_pos rfl, if_pos rfl, gd_t (show inB (0 : Int32) 1 = true from rfl), if_pos (show lg_cmp (vp_updL v19 (Int32.toNatClampNeg 0) (Int32.toInt64 a) (Int32.toNatClampNeg 0)) (Int32.toInt64 a) = 0 by rw [updL_i]; exact lg_self _), nmL_e]
    exact ⟨v0, v1, v2, v3, v4, v5, v6, v7, v8, v9, v10, v11, v12, v14, v15, v16, M', _, rfl, h0.keep e4⟩
  · have eb : b = false := eb
    subst eb
    rw [e1, bind_s]
    unfold exC
    dsimp only
    rw [bif_f, bind_s, e2, bind_s]
    unfold Mod_thrown
    rw [bind_s]
    dsimp only
    rw [e3, if_neg (show ¬ (false = true) by decide), if_pos rfl, if_neg (show ¬ (1 : Int32) = 0 by decide), nmL_e]
    exact ⟨v0, v1, v2, v3, v4, v5, v6, v7, v8, v9, v10, v11, v12, v14, v15, v16, M', _, rfl, h0.keep e4⟩
theorem m47_0 (x1 x2 x3 x5 : Int32) (n : Nat) (M : ModelV) : Mod_nextMeeting_47 x1 x2 x3 0 (n + 1) x5 M = some (-1, M) := by rw [Mod_nextMeeting_47, if_pos rfl]
theorem nextMeeting_loop {v : HouseV} {P : ModelV} (hn : WFn v) (hw : WFG v) (hr : RelM (Model_now P) v) (hp : PhM P v (hF v)) (hcn : Model_cycleNow P = I (cyc v : Int)) {a b m : Nat} (ha : a < hG v) (hb : b < hG v) (hm : m ≤ 1000000) (g : GWV) : ∀ (q k n1 n2 : Nat), cyc v = k + q → q < n1 → q < n2 → ∃ r, GW_nextMeeting_36 (I (a : Int)) (I (b : Int)) (I (m : Int)) g v (I (cyc v : Int)) n1 (I (k : Int)) = some (.ok r) ∧ Mod_nextMeeting_47 (I (a : Int)) (I (b : Int)) (I (m : Int)) 1 n2 (I ((m + k : Nat) : Int)) P = some (r, P) := by
  have hc := cyc_le hw
  intro q
  induction q with
  | zero =>
    intro k n1 n2 hk h1 h2
    obtain ⟨n1, rfl⟩ : ∃ j, n1 = j + 1 := ⟨n1 - 1, by omega⟩
    obtain ⟨n2, rfl⟩ : ∃ j, n2 = j + 1 := ⟨n2 - 1, by omega⟩
    rw [GW_nextMeeting_36, if_pos (I_le_t (by omega) (by omega) (by omega)), Mod_nextMeeting_47, hcn, addN, if_neg (show ¬ (1 : Int32) = 0 by decide), if_pos (I_le_t (by omega) (by omega) (by omega))]
    exact ⟨_, rfl, rfl⟩
  | succ q ih =>
    intro k n1 n2 hk h1 h2
    obtain ⟨n1, rfl⟩ : ∃ j, n1 = j + 1 := ⟨n1 - 1, by omega⟩
    obtain ⟨n2, rfl⟩ : ∃ j, n2 = j + 1 := ⟨n2 - 1, by omega⟩
    have e1 := roomAt_s hn ha (hw a ha) (t := m + k) (by omega)
    have e2 := roomAt_s hn hb (hw b hb) (t := m + k) (by omega)
    have e3 := meet_m (MV_self hr hn hw hp) ha hb (t := m + k) (by omega)
    rw [sp_self] at e3
    unfold meetB at e3
    rw [GW_nextMeeting_36, if_neg (I_le_f (by omega) (by omega) (by omega)), addN m k, e1, bind_s, e2, bind_s, Mod_nextMeeting_47, hcn, addN m (cyc v), if_neg (show ¬ (1 : Int32) = 0 by decide), if_neg (I_le_f (by omega) (by omega) (by omega)), e3, bind_s]
    by_cases c : place v a (m + k) = place v b (m + k)
    · rw [if_pos (show I (place v a (m + k) : Int) = I (place v b (m + k) : Int) by rw [c]), decide_eq_true c, bif_t]
      exact ⟨_, rfl, rfl⟩
    · rw [if_neg (show ¬ I (place v a (m + k) : Int) = I (place v b (m + k) : Int) by rw [place_eq hn (hw a ha) (hw b hb)]; exact c), decide_eq_false c, bif_f, nmL_e, nmL_e, I_succ, I_succ]
      exact ih (k + 1) n1 n2 (by omega) (by omega) (by omega)
/-- when two guards meet next -/
theorem nextMeeting_ax {v : HouseV} {M : ModelV} (hv : HOK v) (hr : RelM (Model_now M) v) (g : GWV) (x y t : Int32) : AX (fun _ => True) M (GW_nextMeeting x y t g v) (Mod_nextMeeting x y t M) := by
  obtain ⟨z, rfl, z1, z2⟩ := sel32 x
  obtain ⟨w, rfl, w1, w2⟩ := sel32 y
  obtain ⟨u, rfl, u1, u2⟩ := sel32 t
  obtain ⟨P, q1, q2, q3, q4, q5, q6⟩ := arePair_m hv hr z1 z2 w1 w2
  obtain ⟨hn, hd, hj, hl, hw, hs⟩ := hv
  have hG4 : hG v ≤ 4 := hn.2.2.2.2.2.2.1
  have hc := cyc_le hw
  unfold GW_nextMeeting Mod_nextMeeting
  rw [needGuard_s hn z1 z2, bind_s, q1, bind_s, nmL_e]
  by_cases c : 0 ≤ z ∧ z < hG v
  · rw [if_pos c]
    unfold exK
    dsimp only
    rw [needGuard_s hn w1 w2, bind_s]
    by_cases c2 : 0 ≤ w ∧ w < hG v
    · obtain ⟨a, rfl⟩ : ∃ d : Nat, z = (d : Int) := ⟨z.toNat, by omega⟩
      obtain ⟨b, rfl⟩ : ∃ d : Nat, w = (d : Int) := ⟨w.toNat, by omega⟩
      have ha : a < hG v := by omega
      have hb : b < hG v := by omega
      have q5' : Model_thrown P = 0 := by rw [q5, if_pos ⟨c, c2⟩]
      rw [if_pos c2, if_pos q5', isMinute_m u1 u2, bind_s]
      unfold Mod_nextMeeting_32
      dsimp only
      rw [needMinute_s u1 u2, bind_s]
      by_cases c3 : 0 ≤ u ∧ u ≤ 1000000
      · obtain ⟨m, rfl⟩ : ∃ d : Nat, u = (d : Int) := ⟨u.toNat, by omega⟩
        rw [if_pos c3, decide_eq_true c3, bif_t, nmL_e, if_pos (Mo_thrown_thrown P 0)]
        dsimp only
        left
        by_cases e2 : a = b
        · rw [if_pos (show I (a : Int) = I (b : Int) by rw [e2]), decide_eq_false (by omega)]
          exact ⟨_, _, rfl, m47_0 _ _ _ _ 199999 _, Mo_thrown_thrown _ _, (kpA_thr _ _).trans q6⟩
        · obtain ⟨r, l1, l2⟩ := nextMeeting_loop (P := Model_set_thrown P 0) hn hw (by rw [Mo_now_thrown]; exact q2) (fun g hg => by rw [Mo_phases_thrown]; exact q3 g hg) (by rw [Mo_cycleNow_thrown]; exact q4) ha hb (show m ≤ 1000000 by omega) g (cyc v) 0 FU FU (by omega) (by unfold FU; omega) (by unfold FU; omega)
          rw [if_neg (show ¬ I (a : Int) = I (b : Int) from I_ne (by omega) (by omega) (by omega) (by omega) (by omega)), decide_eq_true (by omega), cycleLength_s hn hw, bind_s]
          exact ⟨r, _, l1, l2, Mo_thrown_thrown _ _, (kpA_thr _ _).trans q6⟩
      · rw [if_neg c3, decide_eq_false c3, bif_f, nmL_e, if_neg (thr_no (by decide))]
        dsimp only
        exact Or.inr ⟨true, _, _, trivial, rfl, rfl, Mo_thrown_thrown _ _, (kpA_thr _ _).trans q6⟩
    · have q5' : ¬ Model_thrown P = 0 := by rw [q5, if_neg (fun h => c2 h.2)]; decide
      rw [if_neg c2, if_neg q5']
      unfold Mod_nextMeeting_32
      dsimp only
      rw [nmL_e, if_neg (thr_no (by decide))]
      exact Or.inr ⟨false, _, _, trivial, rfl, rfl, Mo_thrown_thrown _ _, (kpA_thr _ _).trans q6⟩
  · have q5' : ¬ Model_thrown P = 0 := by rw [q5, if_neg (fun h => c h.1)]; decide
    rw [if_neg c]
    unfold exK
    dsimp only
    rw [if_neg q5']
    unfold Mod_nextMeeting_32
    rw [nmL_e, if_neg (thr_no (by decide))]
    exact Or.inr ⟨false, _, _, trivial, rfl, rfl, Mo_thrown_thrown _ _, (kpA_thr _ _).trans q6⟩
theorem case_1225 (h : Inv n v0 v1 v3 v4 v5 v6 v8 v12 v17) (hc : c + 6 ≤ L) (hL : L ≤ 3072) : NX n c k23 (Law_1225 L xs k23 (I (c : Int)) v0 v1 v2 v3 v4 v5 v6 v7 v8 v9 v10 v11 v12 v14 v15 v16 v17 v19) := by
  have h0 := h
  obtain ⟨Φ, Ψ, ls, b, len, a1, a2, a3, a4, a5, a6, a7, a8, a9, a10, a11, a12, a13⟩ := h
  unfold Law_1225
  rw [gd_t (in1 hc hL), gd_t (in2 hc hL), gd_t (in3 hc hL)]
  unfold L_nextMeeting
  rcases nextMeeting_ax a3.1 a4 v0 (xs (Int32.toNatClampNeg (I (c : Int) + 1))) (xs (Int32.toNatClampNeg (I (c : Int) + 2))) (xs (Int32.toNatClampNeg (I (c : Int) + 3))) with ⟨a, M', e1, e2, e3, e4⟩ | ⟨b, x, M', eb, e1, e2, e3, e4⟩
  · rw [e1, bind_s]
    unfold exC
    dsimp only
    rw [gd_t (show inB (0 : Int32) 1 = true from rfl), nmL_e, bind_s, e2, bind_s]
    unfold Mod_thrown
    rw [bind_s]
    dsimp only
    rw [e3, if_pos rfl, if_pos rfl, gd_t (show inB (0 : Int32) 1 = true from rfl), if_pos (show lg_cmp (vp_updL v19 (Int32.toNatClampNeg 0) (Int32.toInt64 a) (Int32.toNatClampNeg 0)) (Int32.toInt64 a) = 0 by rw [updL_i]; exact lg_self _), nmL_e]
    exact ⟨v0, v1, v2, v3, v4, v5, v6, v7, v8, v9, v10, v11, v12, v14, v15, v16, M', _, rfl, h0.keep e4⟩
  · rw [e1, bind_s]
    unfold exC
    dsimp only
    cases b
    · rw [bif_f, bind_s, e2, bind_s]
      unfold Mod_thrown
      rw [bind_s]
      dsimp only
      rw [e3, if_neg (show ¬ (false = true) by decide), if_pos rfl, if_neg (show ¬ (1 : Int32) = 0 by decide), nmL_e]
      exact ⟨v0, v1, v2, v3, v4, v5, v6, v7, v8, v9, v10, v11, v12, v14, v15, v16, M', _, rfl, h0.keep e4⟩
    · rw [bif_t, bind_s, e2, bind_s]
      unfold Mod_thrown
      rw [bind_s]
      dsimp only
      rw [e3, if_pos (show true = true from rfl), if_pos rfl, if_neg (show ¬ (2 : Int32) = 0 by decide), nmL_e]
      exact ⟨v0, v1, v2, v3, v4, v5, v6, v7, v8, v9, v10, v11, v12, v14, v15, v16, M', _, rfl, h0.keep e4⟩
end CASES13
