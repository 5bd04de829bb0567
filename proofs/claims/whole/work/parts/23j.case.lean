section CASES10
variable {n c L : Nat} {k23 : K23} {xs : Nat → Int32} {v0 : GWV} {v1 v2 v5 v9 : HouseV} {v3 : HistV} {v4 : Nat → HouseV} {v6 v7 v10 : SightV} {v8 : BestV} {v11 : IntrV} {v12 : ToksV} {v14 : QReadV} {v15 v16 : Nat → Int32} {v17 M' : ModelV} {v19 : Nat → Int64}
theorem beg_neg (S : Nat → Bool) {n : Nat} (hn : 1 ≤ n) (h : gapC S n ≤ 0) : begC S n = -1 := by
  unfold gapC at h
  unfold begC
  rcases cst_ok S n with k | ⟨a1, a2, a3, a4, a5, a6, a7, a8, a9⟩
  · rw [if_pos k.2.1]
  · rw [if_neg (show ¬ (cst S n).2.1 = -1 by omega)] at h ⊢
    split at h
    · exfalso; omega
    · rw [if_neg (by omega), if_neg (by omega)]
      exact a6 (by omega)
/-- where the longest gap begins -/
theorem gapFrom_as {v : HouseV} {M : ModelV} {s0 : SightV} (hv : HOK v) (hr : RelM (Model_now M) v) (hms : MS s0 v) (g : GWV) (x : Int32) : AS v s0 M (GW_gapFrom x g v s0) (Mod_gapFrom x M) := by
  obtain ⟨hn, hd, hj, hl, hw, hs⟩ := id hv
  have hR12 : hR v ≤ 12 := hn.2.2.1
  have hr0 : RelM (Model_now (Model_set_thrown M 0)) v := by rw [Mo_now_thrown]; exact hr
  obtain ⟨z, rfl, z1, z2⟩ := sel32 x
  unfold GW_gapFrom Mod_gapFrom
  rw [needRoom_s hn z1 z2, bind_s, nmL_e, isRoom_m hr0 hn z1 z2, bind_s]
  by_cases c : 0 ≤ z ∧ z < hR v
  · obtain ⟨d, rfl⟩ : ∃ d : Nat, z = (d : Int) := ⟨z.toNat, by omega⟩
    have hdd : d < hR v := by omega
    obtain ⟨ph, cy, f, l, s, gg, b, e, h1, h2, h3⟩ := layNow_m hr0 hn hw
    have kT : Model_thrown (ML (Model_set_cycleNow (Model_set_phases (Model_set_thrown M 0) ph) cy) f l s gg b) = 0 := by rw [MLo_thrown, Mo_thrown_cycleNow, Mo_thrown_phases, Mo_thrown_thrown]
    have kA : kpA (ML (Model_set_cycleNow (Model_set_phases (Model_set_thrown M 0) ph) cy) f l s gg b) = kpA M := (congrArg (fun q => q.2) (show kp _ = kp (Model_set_thrown M 0) by rw [kp_ML, kp_cycleNow, kp_phases])).trans (kpA_thr _ _)
    have kg : Model_gap (ML (Model_set_cycleNow (Model_set_phases (Model_set_thrown M 0) ph) cy) f l s gg b) = gg := by unfold ML; rw [Mo_gap_gapBegin, Mo_gap_gap]
    have kb : Model_gapBegin (ML (Model_set_cycleNow (Model_set_phases (Model_set_thrown M 0) ph) cy) f l s gg b) = b := by unfold ML; rw [Mo_gapBegin_gapBegin]
    have cp := cyc_pos hw
    have cl := cyc_le hw
    have hb := gapC_b (Sg v d) cp
    obtain ⟨g1, g2, g3⟩ := h3 d hdd
    obtain ⟨s1, m1, m2, m3⟩ := measured_s hn hw hms g
    rw [if_pos c, decide_eq_true c, bif_t, e, bind_s]
    unfold exK
    dsimp only
    rw [m1, bind_s, gd_I (by omega) (by omega) (by omega), gd_I (by omega) (by omega) (by omega), I_clamp d (by omega), (m2.1 d hdd).2.1, kg, kb, g1]
    left
    by_cases c0 : gapC (Sg v d) (cyc v) ≤ 0
    · rw [if_pos (show I (gapC (Sg v d) (cyc v)) ≤ (0 : Int32) from I_le_t (a := gapC (Sg v d) (cyc v)) (b := 0) c0 (by omega) (by omega)), beg_neg _ cp c0]
      exact ⟨_, s1, _, rfl, Or.inr ⟨m2, m3⟩, rfl, kT, kA⟩
    · rw [if_neg (show ¬ I (gapC (Sg v d) (cyc v)) ≤ (0 : Int32) from I_le_f (a := gapC (Sg v d) (cyc v)) (b := 0) (by omega) (by omega) (by omega)), g3 (by omega)]
      exact ⟨_, s1, _, rfl, Or.inr ⟨m2, m3⟩, rfl, kT, kA⟩
  · obtain ⟨M', r1, r2, r3⟩ := raise_ax (M := M) 1
    rw [if_neg c, decide_eq_false c, bif_f, r1, bind_s]
    exact Or.inr ⟨_, M', rfl, rfl, r2, r3⟩
theorem case_890 (h : Inv n v0 v1 v3 v4 v5 v6 v8 v12 v17) (hn : n ≤ 100000) (hc : c + 6 ≤ L) (hL : L ≤ 3072) : NX n c k23 (Law_890 L xs k23 (I (c : Int)) v0 v1 v2 v3 v4 v5 v6 v7 v8 v9 v10 v11 v12 v14 v15 v16 v17 v19) := by
  have h0 := h
  obtain ⟨Φ, Ψ, ls, b, len, a1, a2, a3, a4, a5, a6, a7, a8, a9, a10, a11, a12, a13⟩ := h
  unfold Law_890
  rw [gd_t (in1 hc hL)]
  unfold L_gapFrom
  rcases gapFrom_as a3.1 a4 (a12.ms a3 (by omega)) v0 (xs (Int32.toNatClampNeg (I (c : Int) + 1))) with ⟨a, s, M', e1, e5, e2, e3, e4⟩ | ⟨x, M', e1, e2, e3, e4⟩
  · rw [e1, bind_s]
    unfold exC
    dsimp only
    rw [gd_t (show inB (0 : Int32) 1 = true from rfl), nmL_e, bind_s, e2, bind_s]
    unfold Mod_thrown
    rw [bind_s]
    dsimp only
    rw [e3, if_pos rfl, if_pos rfl, gd_t (show inB (0 : Int32) 1 = true from rfl), if_pos (show lg_cmp (vp_updL v19 (Int32.toNatClampNeg 0) (Int32.toInt64 a) (Int32.toNatClampNeg 0)) (Int32.toInt64 a) = 0 by rw [updL_i]; exact lg_self _), nmL_e]
    exact ⟨v0, v1, v2, v3, v4, v5, s, v7, v8, v9, v10, v11, v12, v14, v15, v16, M', _, rfl, (h0.sight e5).keep e4⟩
  · rw [e1, bind_s]
    unfold exC
    dsimp only
    rw [bif_f, bind_s, e2, bind_s]
    unfold Mod_thrown
    rw [bind_s]
    dsimp only
    rw [e3, if_pos rfl, if_neg (show ¬ (1 : Int32) = 0 by decide), nmL_e]
    exact ⟨v0, v1, v2, v3, v4, v5, v6, v7, v8, v9, v10, v11, v12, v14, v15, v16, M', _, rfl, h0.keep e4⟩
end CASES10
