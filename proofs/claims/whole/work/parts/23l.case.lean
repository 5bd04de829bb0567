section CASES12
variable {n c L : Nat} {k23 : K23} {xs : Nat → Int32} {v0 : GWV} {v1 v2 v5 v9 : HouseV} {v3 : HistV} {v4 : Nat → HouseV} {v6 v7 v10 : SightV} {v8 : BestV} {v11 : IntrV} {v12 : ToksV} {v14 : QReadV} {v15 v16 : Nat → Int32} {v17 M' : ModelV} {v19 : Nat → Int64}
theorem needRange_s {z lo hi : Int} (h1 : -2147483648 ≤ z) (h2 : z ≤ 2147483647) (h3 : -2147483648 ≤ lo) (h4 : lo ≤ 2147483647) (h5 : -2147483648 ≤ hi) (h6 : hi ≤ 2147483647) : GW_needRange (I z) (I lo) (I hi) = some (if lo ≤ z ∧ z ≤ hi then .ok () else .error true) := by
  unfold GW_needRange GW_needRange_10
  by_cases c : z < lo
  · rw [if_pos (I_lt_t c h1 h4), if_neg (show ¬ (lo ≤ z ∧ z ≤ hi) by omega)]
  · rw [if_neg (I_lt_f (by omega) h3 h2)]
    by_cases c2 : z ≤ hi
    · rw [if_pos (I_le_t c2 h1 h6), if_pos (show lo ≤ z ∧ z ≤ hi by omega)]
    · rw [if_neg (I_le_f (by omega) h5 h2), if_neg (show ¬ (lo ≤ z ∧ z ≤ hi) by omega)]
theorem needMinute_s {z : Int} (h1 : -2147483648 ≤ z) (h2 : z ≤ 2147483647) : GW_needRange (I z) 0 1000000 = some (if 0 ≤ z ∧ z ≤ 1000000 then .ok () else .error true) := needRange_s (lo := 0) (hi := 1000000) h1 h2 (by omega) (by omega) (by omega) (by omega)
theorem isMinute_m {z : Int} (h1 : -2147483648 ≤ z) (h2 : z ≤ 2147483647) : Mod_isMinute (I z) = some (decide (0 ≤ z ∧ z ≤ 1000000)) := by
  have e : Mod_inRange (I z) 0 1000000 = some (decide (0 ≤ z ∧ z ≤ 1000000)) := inRange_s (a := 0) (b := 1000000) h1 h2 (by omega) (by omega) (by omega) (by omega)
  unfold Mod_isMinute
  rw [e, bind_s]
theorem addN (a b : Nat) : I (a : Int) + I (b : Int) = I ((a + b : Nat) : Int) := by rw [I_add]; rfl
theorem nextSeen_loop {v : HouseV} {P : ModelV} (hn : WFn v) (hw : WFG v) (hr : RelM (Model_now P) v) (hp : PhM P v (hF v)) {r m : Nat} (hrr : r < hR v) (hm : m ≤ 1000000) (g : GWV) : ∀ (q k n1 n2 : Nat), cyc v = k + q → q < n1 → q < n2 → ∃ a, GW_nextSeen_23 (I (r : Int)) (I (m : Int)) g v (I (cyc v : Int)) n1 (I (k : Int)) = some (.ok a) ∧ Mod_nextSeen_49 (I (r : Int)) (I (m : Int)) (I (cyc v : Int)) n2 (I ((m + k : Nat) : Int)) P = some (a, P) := by
  have hR12 : hR v ≤ 12 := hn.2.2.1
  have hc := cyc_le hw
  intro q
  induction q with
  | zero =>
    intro k n1 n2 hk h1 h2
    obtain ⟨n1, rfl⟩ : ∃ j, n1 = j + 1 := ⟨n1 - 1, by omega⟩
    obtain ⟨n2, rfl⟩ : ∃ j, n2 = j + 1 := ⟨n2 - 1, by omega⟩
    rw [GW_nextSeen_23, if_pos (I_le_t (by omega) (by omega) (by omega)), Mod_nextSeen_49, addN, if_pos (I_le_t (by omega) (by omega) (by omega))]
    exact ⟨_, rfl, rfl⟩
  | succ q ih =>
    intro k n1 n2 hk h1 h2
    obtain ⟨n1, rfl⟩ : ∃ j, n1 = j + 1 := ⟨n1 - 1, by omega⟩
    obtain ⟨n2, rfl⟩ : ∃ j, n2 = j + 1 := ⟨n2 - 1, by omega⟩
    have e1 := guardsAt_s hn hw (x := r) (t := m + k) (by omega) (by omega)
    have e2 : Mod_guardsAt (I (r : Int)) (I ((m + k : Nat) : Int)) P = some (I ((msk (fun g => decide (place v g (m + k) = r)) (hG v) : Nat) : Int)) := guardsAt_m hr hn hw hp (by omega) (by omega)
    obtain ⟨s, hs⟩ : ∃ s : Int32, s = I ((msk (fun g => decide (place v g (m + k) = r)) (hG v) : Nat) : Int) := ⟨_, rfl⟩
    rw [← hs] at e1 e2
    rw [GW_nextSeen_23, if_neg (I_le_f (by omega) (by omega) (by omega)), addN m k, e1, bind_s, Mod_nextSeen_49, addN m (cyc v), if_neg (I_le_f (by omega) (by omega) (by omega)), e2, bind_s]
    by_cases c : s = 0
    · rw [if_pos c, if_pos c, nmL_e, nmL_e, I_succ, I_succ]
      exact ih (k + 1) n1 n2 (by omega) (by omega) (by omega)
    · rw [if_neg c, if_neg c]
      exact ⟨_, rfl, rfl⟩
/-- the model with the phases taken -/
theorem taken_m {v : HouseV} {M : ModelV} (hv : HOK v) (hr : RelM (Model_now M) v) : ∃ P, Mod_takePhases (Model_set_thrown M 0) = some P ∧ RelM (Model_now P) v ∧ PhM P v (hF v) ∧ Model_thrown P = 0 ∧ kpA P = kpA M := by
  have hr0 : RelM (Model_now (Model_set_thrown M 0)) v := by rw [Mo_now_thrown]; exact hr
  obtain ⟨f, t1, t2⟩ := takePhases_m (M := Model_set_thrown M 0) hr0 hv.1
  refine ⟨_, t1, rel_ph hr0, PhM.of (M := Model_set_thrown M 0) hv.2.2.2.2.1 t2, ?_, ?_⟩
  · rw [Mo_thrown_phases, Mo_thrown_thrown]
  · exact (congrArg (fun q => q.2) (kp_phases (Model_set_thrown M 0) f)).trans (kpA_thr _ _)
theorem thr_no {M : ModelV} {x : Int32} (h : ¬ x = 0) : ¬ Model_thrown (Model_set_thrown M x) = 0 := by rw [Mo_thrown_thrown]; exact h
/-- when a room is seen next -/
theorem nextSeen_ax {v : HouseV} {M : ModelV} (hv : HOK v) (hr : RelM (Model_now M) v) (g : GWV) (x y : Int32) : AX (fun _ => True) M (GW_nextSeen x y g v) (Mod_nextSeen x y M) := by
  obtain ⟨P, t1, p1, p2, p3, p4⟩ := taken_m hv hr
  obtain ⟨hn, hd, hj, hl, hw, hs⟩ := hv
  have hR12 : hR v ≤ 12 := hn.2.2.1
  have hc := cyc_le hw
  obtain ⟨z, rfl, z1, z2⟩ := sel32 x
  obtain ⟨w, rfl, w1, w2⟩ := sel32 y
  unfold GW_nextSeen Mod_nextSeen
  rw [needRoom_s hn z1 z2, bind_s, isRoom_m hr hn z1 z2, bind_s]
  by_cases c : 0 ≤ z ∧ z < hR v
  · obtain ⟨d, rfl⟩ : ∃ d : Nat, z = (d : Int) := ⟨z.toNat, by omega⟩
    have hdd : d < hR v := by omega
    rw [if_pos c, decide_eq_true c, bif_t]
    unfold exK Mod_nextSeen_25
    dsimp only
    rw [needMinute_s w1 w2, bind_s, isMinute_m w1 w2, bind_s]
    by_cases c2 : 0 ≤ w ∧ w ≤ 1000000
    · obtain ⟨m, rfl⟩ : ∃ d : Nat, w = (d : Int) := ⟨w.toNat, by omega⟩
      rw [if_pos c2, decide_eq_true c2, bif_t]
      dsimp only
      obtain ⟨a, l1, l2⟩ := nextSeen_loop hn hw p1 p2 hdd (show m ≤ 1000000 by omega) g (cyc v) 0 FU FU (by omega) (by unfold FU; omega) (by unfold FU; omega)
      rw [cycleLength_s hn hw, bind_s, nmL_e, if_pos (Mo_thrown_thrown M 0), t1, bind_s, cycle_m p1 hn hw, bind_s]
      exact Or.inl ⟨a, P, l1, l2, p3, p4⟩
    · rw [if_neg c2, decide_eq_false c2, bif_f]
      dsimp only
      rw [nmL_e, if_neg (thr_no (by decide))]
      exact Or.inr ⟨true, _, _, trivial, rfl, rfl, Mo_thrown_thrown _ _, kpA_thr _ _⟩
  · rw [if_neg c, decide_eq_false c, bif_f]
    unfold exK Mod_nextSeen_25
    dsimp only
    rw [nmL_e, if_neg (thr_no (by decide))]
    exact Or.inr ⟨false, _, _, trivial, rfl, rfl, Mo_thrown_thrown _ _, kpA_thr _ _⟩
theorem case_822 (h : Inv n v0 v1 v3 v4 v5 v6 v8 v12 v17) (hc : c + 6 ≤ L) (hL : L ≤ 3072) : NX n c k23 (Law_822 L xs k23 (I (c : Int)) v0 v1 v2 v3 v4 v5 v6 v7 v8 v9 v10 v11 v12 v14 v15 v16 v17 v19) := by
  have h0 := h
  obtain ⟨Φ, Ψ, ls, b, len, a1, a2, a3, a4, a5, a6, a7, a8, a9, a10, a11, a12, a13⟩ := h
  unfold Law_822
  rw [gd_t (in1 hc hL), gd_t (in2 hc hL)]
  unfold L_nextSeen
  rcases nextSeen_ax a3.1 a4 v0 (xs (Int32.toNatClampNeg (I (c : Int) + 1))) (xs (Int32.toNatClampNeg (I (c : Int) + 2))) with ⟨a, M', e1, e2, e3, e4⟩ | ⟨b, x, M', eb, e1, e2, e3, e4⟩
  · rw [e1, bind_s]
    unfold exC
    dsimp only
    rw [gd_t (show inB (0 : Int32) 1 = true from rfl), nmL_e, bind_s, e2, bind_s]
    unfold Mod_thrown
    rw [bind_s]
    dsimp only
    rw [e3, if_pos rfl, if_pos rfl, gd_t (show inB (0 : Int32) 1 = true from rfl), if_pos (show lg_cmp (vp_updL v19 (Int32.toNatClampNeg 0) (Int32.toInt64 a) (Int32.toNatClampNeg 0)) (Int32.toInt64 a) = 0 by rw [updL_i]; exact lg_self _), nmL_e]
    exact ⟨v0, v1, v2, v3, v4, v5, v6, v7, v8, v9, v10, v11, v12, v14, v15, v16, M', _, rfl, h0.keep e4⟩
  · rw [e1, bind_s]
    unfold exC
    dsimp only
    cases b
    · rw [bif_f, bind_s, e2, bind_s]
      unfold Mod_thrown
      rw [bind_s]
      dsimp only
      rw [e3, if_neg (show ¬ (false = true) by decide), if_pos rfl, if_neg (show ¬ (1 : Int32) = 0 by decide), nmL_e]
      exact ⟨v0, v1, v2, v3, v4, v5, v6, v7, v8, v9, v10, v11, v12, v14, v15, v16, M', _, rfl, h0.keep e4⟩
    · rw [bif_t, bind_s, e2, bind_s]
      unfold Mod_thrown
      rw [bind_s]
      dsimp only
      rw [e3, if_pos (show true = true from rfl), if_pos rfl, if_neg (show ¬ (2 : Int32) = 0 by decide), nmL_e]
      exact ⟨v0, v1, v2, v3, v4, v5, v6, v7, v8, v9, v10, v11, v12, v14, v15, v16, M', _, rfl, h0.keep e4⟩
/-- are two rooms joined -/
theorem isJoined_ax {v : HouseV} {M : ModelV} (hv : HOK v) (hr : RelM (Model_now M) v) (g : GWV) (x y : Int32) : (∃ a M', GW_isJoined x y g v = some (.ok a) ∧ Mod_isJoined x y M = some (a, M') ∧ Model_thrown M' = 0 ∧ kpA M' = kpA M) ∨ (∃ (a : Bool) (M' : ModelV), GW_isJoined x y g v = some (.error false) ∧ Mod_isJoined x y M = some (a, M') ∧ Model_thrown M' = 1 ∧ kpA M' = kpA M) := by
  obtain ⟨hn, hd, hj, hl, hw, hs⟩ := hv
  have hR12 : hR v ≤ 12 := hn.2.2.1
  have hr0 : RelM (Model_now (Model_set_thrown M 0)) v := by rw [Mo_now_thrown]; exact hr
  obtain ⟨z, rfl, z1, z2⟩ := sel32 x
  obtain ⟨w, rfl, w1, w2⟩ := sel32 y
  unfold GW_isJoined Mod_isJoined
  rw [needRoom_s hn z1 z2, bind_s, isRoom_m hr hn z1 z2, bind_s]
  by_cases c : 0 ≤ z ∧ z < hR v
  · obtain ⟨a, rfl⟩ : ∃ d : Nat, z = (d : Int) := ⟨z.toNat, by omega⟩
    have hda : a < hR v := by omega
    rw [if_pos c, decide_eq_true c, bif_t]
    unfold exK
    dsimp only
    rw [needRoom_s hn w1 w2, bind_s, isRoom_m hr hn w1 w2, bind_s]
    by_cases c2 : 0 ≤ w ∧ w < hR v
    · obtain ⟨b, rfl⟩ : ∃ d : Nat, w = (d : Int) := ⟨w.toNat, by omega⟩
      have hdb : b < hR v := by omega
      rw [if_pos c2, decide_eq_true c2, bif_t]
      unfold Mod_isJoined_22
      dsimp only
      rw [areJoined_s hn hd hj hda (by omega), bind_s, nmL_e, if_pos (Mo_thrown_thrown M 0), openBetween_m hr0 hn hd (by omega) (by omega), bind_s, joined_iff]
      have hle := cnt_le (fun d => opn v d && btw v a b d) (hD v)
      have hD20 : hD v ≤ 20 := hn.2.2.2.2.1
      left
      by_cases c3 : 0 < cnt (fun d => opn v d && btw v a b d) (hD v)
      · rw [decide_eq_true c3, if_neg (show ¬ I ((cnt (fun d => opn v d && btw v a b d) (hD v) : Nat) : Int) ≤ (0 : Int32) from I_le_f (b := 0) (by omega) (by omega) (by omega))]
        exact ⟨_, _, rfl, rfl, Mo_thrown_thrown _ _, kpA_thr _ _⟩
      · rw [decide_eq_false c3, if_pos (show I ((cnt (fun d => opn v d && btw v a b d) (hD v) : Nat) : Int) ≤ (0 : Int32) from I_le_t (b := 0) (by omega) (by omega) (by omega))]
        exact ⟨_, _, rfl, rfl, Mo_thrown_thrown _ _, kpA_thr _ _⟩
    · rw [if_neg c2, decide_eq_false c2, bif_f]
      unfold Mod_isJoined_21 Mod_isJoined_22
      dsimp only
      rw [nmL_e, if_neg (thr_no (by decide))]
      exact Or.inr ⟨_, _, rfl, rfl, Mo_thrown_thrown _ _, kpA_thr _ _⟩
  · rw [if_neg c, decide_eq_false c, bif_f]
    unfold exK Mod_isJoined_21 Mod_isJoined_22
    dsimp only
    rw [nmL_e, if_neg (thr_no (by decide))]
    exact Or.inr ⟨_, _, rfl, rfl, Mo_thrown_thrown _ _, kpA_thr _ _⟩
theorem case_946 (h : Inv n v0 v1 v3 v4 v5 v6 v8 v12 v17) (hc : c + 6 ≤ L) (hL : L ≤ 3072) : NX n c k23 (Law_946 L xs k23 (I (c : Int)) v0 v1 v2 v3 v4 v5 v6 v7 v8 v9 v10 v11 v12 v14 v15 v16 v17 v19) := by
  have h0 := h
  obtain ⟨Φ, Ψ, ls, b, len, a1, a2, a3, a4, -⟩ := h
  unfold Law_946
  rw [gd_t (in1 hc hL), gd_t (in2 hc hL)]
  unfold L_isJoined
  rcases isJoined_ax a3.1 a4 v0 (xs (Int32.toNatClampNeg (I (c : Int) + 1))) (xs (Int32.toNatClampNeg (I (c : Int) + 2))) with ⟨a, M', e1, e2, e3, e4⟩ | ⟨a, M', e1, e2, e3, e4⟩
  · rw [e1, bind_s]
    unfold exC
    dsimp only
    cases a
    · rw [bif_f, gd_t (show inB (0 : Int32) 1 = true from rfl), nmL_e, bind_s, e2, bind_s, nmL_e]
      unfold Mod_thrown
      rw [bind_s]
      dsimp only
      rw [e3, if_pos rfl, if_pos rfl, gd_t (show inB (0 : Int32) 1 = true from rfl), if_pos (show b2i false = 0 from rfl), if_pos (show lg_cmp (vp_updL v19 (Int32.toNatClampNeg 0) 0 (Int32.toNatClampNeg 0)) 0 = 0 by rw [updL_i]; exact lg_self _), nmL_e]
      exact ⟨v0, v1, v2, v3, v4, v5, v6, v7, v8, v9, v10, v11, v12, v14, v15, v16, M', _, rfl, h0.keep e4⟩
    · rw [bif_t, gd_t (show inB (0 : Int32) 1 = true from rfl), nmL_e, bind_s, e2, bind_s, nmL_e]
      unfold Mod_thrown
      rw [bind_s]
      dsimp only
      rw [e3, if_pos rfl, if_pos rfl, gd_t (show inB (0 : Int32) 1 = true from rfl), if_neg (show ¬ b2i true = 0 by decide), if_pos (show lg_cmp (vp_updL v19 (Int32.toNatClampNeg 0) 1 (Int32.toNatClampNeg 0)) 1 = 0 by rw [updL_i]; exact lg_self _), nmL_e]
      exact ⟨v0, v1, v2, v3, v4, v5, v6, v7, v8, v9, v10, v11, v12, v14, v15, v16, M', _, rfl, h0.keep e4⟩
  · rw [e1, bind_s]
    unfold exC
    dsimp only
    rw [bif_f, bind_s, e2, bind_s, nmL_e]
    unfold Mod_thrown
    rw [bind_s]
    dsimp only
    rw [e3, if_pos rfl, if_neg (show ¬ (1 : Int32) = 0 by decide), nmL_e]
    exact ⟨v0, v1, v2, v3, v4, v5, v6, v7, v8, v9, v10, v11, v12, v14, v15, v16, M', _, rfl, h0.keep e4⟩
end CASES12
