section CASES6
variable {n c L : Nat} {k23 : K23} {xs : Nat → Int32} {v0 : GWV} {v1 v2 v5 v9 : HouseV} {v3 : HistV} {v4 : Nat → HouseV} {v6 v7 v10 : SightV} {v8 : BestV} {v11 : IntrV} {v12 : ToksV} {v14 : QReadV} {v15 v16 : Nat → Int32} {v17 M' : ModelV} {v19 : Nat → Int64}
/-- a property of a guard -/
theorem guard_ax {v : HouseV} {M : ModelV} (hv : HOK v) (hr : RelM (Model_now M) v) (g : GWV) (x y : Int32) : AX (fun b => b = false) M (GW_guard x y g v) (Mod_guard x y M) := by
  obtain ⟨hn, hd, hj, hl, hw, hs⟩ := hv
  have hG4 : hG v ≤ 4 := hn.2.2.2.2.2.2.1
  have hM9 : hM v ≤ 99999 := hn.2.2.2.2.2.2.2.2.1
  have hr0 : RelM (Model_now (Model_set_thrown M 0)) v := by rw [Mo_now_thrown]; exact hr
  obtain ⟨z, rfl, z1, z2⟩ := sel32 x
  obtain ⟨w, rfl, w1, w2⟩ := sel32 y
  unfold GW_guard Mod_guard
  rw [needGuard_s hn z1 z2, bind_s, nmL_e, isGuard_m hr0 hn z1 z2, bind_s]
  by_cases c : 0 ≤ z ∧ z < hG v
  · obtain ⟨d, rfl⟩ : ∃ d : Nat, z = (d : Int) := ⟨z.toNat, by omega⟩
    have hdd : d < hG v := by omega
    obtain ⟨f, t1, t2⟩ := takePhases_m (M := Model_set_thrown M 0) hr0 hn
    have hph := PhM.of (M := Model_set_thrown M 0) hw t2
    have hP : ∃ P, P = Model_set_phases (Model_set_thrown M 0) f ∧ RelM (Model_now P) v ∧ PhM P v (hF v) ∧ Model_thrown P = 0 ∧ kpA P = kpA M := by
      refine ⟨_, rfl, rel_ph hr0, hph, ?_, ?_⟩
      · rw [Mo_thrown_phases, Mo_thrown_thrown]
      · exact (congrArg (fun q => q.2) (kp_phases (Model_set_thrown M 0) f)).trans (kpA_thr _ _)
    obtain ⟨P, p0, p1, p2, p3, p4⟩ := hP
    rw [if_pos c, decide_eq_true c, bif_t, t1, bind_s, ← p0, I_int w1 w2]
    unfold exK
    dsimp only
    by_cases c2 : 0 ≤ w ∧ w ≤ 3
    · rw [if_neg (show ¬ (w < 0 ∨ 3 < w) by omega), if_neg (show ¬ (w < 0 ∨ 3 < w) by omega)]
      left
      have hg := hw d hdd
      obtain rfl | rfl | rfl | rfl : w = 0 ∨ w = 1 ∨ w = 2 ∨ w = 3 := by omega
      · rw [if_pos (show I 0 = (0 : Int32) by decide), if_pos (show I 0 = (0 : Int32) by decide), gd_I (by omega) (by omega) (by omega), I_clamp d (by omega), period_m p1 hn hdd, bind_s]
        exact ⟨_, P, rfl, rfl, p3, p4⟩
      · rw [if_neg (show ¬ I 1 = (0 : Int32) by decide), if_neg (show ¬ I 1 = (0 : Int32) by decide), if_pos (show I 1 = (1 : Int32) by decide), if_pos (show I 1 = (1 : Int32) by decide), gd_I (by omega) (by omega) (by omega), I_clamp d (by omega), phaseOf_m p1 hn hdd, bind_s]
        exact ⟨_, P, rfl, rfl, p3, p4⟩
      · have e3 : Model_now P (Int32.toNatClampNeg 3) = I (hM v : Int) := p1.2.2.2.1.trans hn.2.2.2.2.2.2.2.1
        rw [if_neg (show ¬ I 2 = (0 : Int32) by decide), if_neg (show ¬ I 2 = (0 : Int32) by decide), if_neg (show ¬ I 2 = (1 : Int32) by decide), if_neg (show ¬ I 2 = (1 : Int32) by decide), if_pos (show I 2 = (2 : Int32) by decide), if_pos (show I 2 = (2 : Int32) by decide), hn.2.2.2.2.2.2.2.1, roomAt_s hn hdd hg (by omega), bind_s, gd_t (show inB (3 : Int32) 172 = true from rfl), e3, place_m p1 hn p2 hdd hg (by omega), bind_s]
        exact ⟨_, P, rfl, rfl, p3, p4⟩
      · obtain ⟨k, hk⟩ := walked_s hn hg.1
        rw [if_neg (show ¬ I 3 = (0 : Int32) by decide), if_neg (show ¬ I 3 = (0 : Int32) by decide), if_neg (show ¬ I 3 = (1 : Int32) by decide), if_neg (show ¬ I 3 = (1 : Int32) by decide), if_neg (show ¬ I 3 = (2 : Int32) by decide), if_neg (show ¬ I 3 = (2 : Int32) by decide), if_pos (show I 3 = (3 : Int32) by decide), if_pos (show I 3 = (3 : Int32) by decide), gd_I (by omega) (by omega) (by omega), I_clamp d (by omega), different_m p1 hn hdd hg.1, hk, bind_s, bind_s]
        exact ⟨_, P, rfl, rfl, p3, p4⟩
    · rw [if_pos (show w < 0 ∨ 3 < w by omega), if_pos (show w < 0 ∨ 3 < w by omega)]
      unfold Mod_raise
      rw [nmL_e, bind_s]
      exact Or.inr ⟨false, _, _, rfl, rfl, rfl, Mo_thrown_thrown _ _, (kpA_thr _ _).trans p4⟩
  · obtain ⟨M', r1, r2, r3⟩ := raise_ax (M := M) 1
    rw [if_neg c, decide_eq_false c, bif_f, r1, bind_s]
    exact Or.inr ⟨false, _, M', rfl, rfl, rfl, r2, r3⟩
theorem case_550 (h : Inv n v0 v1 v3 v4 v5 v6 v8 v12 v17) (hc : c + 6 ≤ L) (hL : L ≤ 3072) : NX n c k23 (Law_550 L xs k23 (I (c : Int)) v0 v1 v2 v3 v4 v5 v6 v7 v8 v9 v10 v11 v12 v14 v15 v16 v17 v19) := by
  have h0 := h
  obtain ⟨Φ, Ψ, ls, b, len, a1, a2, a3, a4, -⟩ := h
  unfold Law_550
  rw [gd_t (in1 hc hL), gd_t (in2 hc hL)]
  unfold L_guard
  rcases guard_ax a3.1 a4 v0 (xs (Int32.toNatClampNeg (I (c : Int) + 1))) (xs (Int32.toNatClampNeg (I (c : Int) + 2))) with ⟨a, M', e1, e2, e3, e4⟩ | ⟨b, x, M', eb, e1, e2, e3, e4⟩
  · rw [e1, bind_s]
    unfold exC
    dsimp only
    rw [gd_t (show inB (0 : Int32) 1 = true from rfl), nmL_e, bind_s, e2, bind_s]
    unfold Mod_thrown
    rw [bind_s]
    dsimp only
    rw [e3, if_pos rfl, if_pos rfl, gd_t (show inB (0 : Int32) 1 = true from rfl), if_pos (show lg_cmp (vp_updL v19 (Int32.toNatClampNeg 0) (Int32.toInt64 a) (Int32.toNatClampNeg 0)) (Int32.toInt64 a) = 0 by rw [updL_i]; exact lg_self _), nmL_e]
    exact ⟨v0, v1, v2, v3, v4, v5, v6, v7, v8, v9, v10, v11, v12, v14, v15, v16, M', _, rfl, h0.keep e4⟩
  · have eb : b = false := eb
    subst eb
    rw [e1, bind_s]
    unfold exC
    dsimp only
    rw [bif_f, bind_s, e2, bind_s]
    unfold Mod_thrown
    rw [bind_s]
    dsimp only
    rw [e3, if_neg (show ¬ (false = true) by decide), if_pos rfl, if_neg (show ¬ (1 : Int32) = 0 by decide), nmL_e]
    exact ⟨v0, v1, v2, v3, v4, v5, v6, v7, v8, v9, v10, v11, v12, v14, v15, v16, M', _, rfl, h0.keep e4⟩
end CASES6
