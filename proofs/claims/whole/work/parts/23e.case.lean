section CASES5
variable {n c L : Nat} {k23 : K23} {xs : Nat → Int32} {v0 : GWV} {v1 v2 v5 v9 : HouseV} {v3 : HistV} {v4 : Nat → HouseV} {v6 v7 v10 : SightV} {v8 : BestV} {v11 : IntrV} {v12 : ToksV} {v14 : QReadV} {v15 v16 : Nat → Int32} {v17 M' : ModelV} {v19 : Nat → Int64}
/-- a step of a walk -/
theorem walk_ax {v : HouseV} {M : ModelV} (hv : HOK v) (hr : RelM (Model_now M) v) (g : GWV) (x y : Int32) : AX (fun b => b = false) M (GW_walk x y g v) (Mod_walk x y M) := by
  obtain ⟨hn, hd, hj, hl, hw, hs⟩ := hv
  have hG4 : hG v ≤ 4 := hn.2.2.2.2.2.2.1
  have hr0 : RelM (Model_now (Model_set_thrown M 0)) v := by rw [Mo_now_thrown]; exact hr
  obtain ⟨z, rfl, z1, z2⟩ := sel32 x
  obtain ⟨w, rfl, w1, w2⟩ := sel32 y
  unfold GW_walk Mod_walk
  rw [needGuard_s hn z1 z2, bind_s, nmL_e, isGuard_m hr0 hn z1 z2, bind_s]
  by_cases c : 0 ≤ z ∧ z < hG v
  · obtain ⟨d, rfl⟩ : ∃ d : Nat, z = (d : Int) := ⟨z.toNat, by omega⟩
    have hdd : d < hG v := by omega
    have hp := hw.per d hdd
    rw [if_pos c, decide_eq_true c, bif_t, period_m hr0 hn hdd, bind_s, (hw d hdd).1.1]
    unfold exK
    dsimp only
    have hin : Mod_inRange (I w) 0 (I (hP v d : Int) - 1) = some (decide (0 ≤ w ∧ w ≤ (hP v d : Int) - 1)) := by
      rw [I1, I_sub, I0, inRange_s w1 w2 (by omega) (by omega) (by omega) (by omega)]
    rw [hin, bind_s]
    left
    by_cases c2 : 0 ≤ w
    · obtain ⟨s, rfl⟩ : ∃ s : Nat, w = (s : Int) := ⟨w.toNat, by omega⟩
      rw [walkRoom_s hn hdd (hw d hdd).1 (by omega), bind_s]
      by_cases c3 : s < hP v d
      · rw [if_pos c3, decide_eq_true (by omega), bif_t, step_m hr0 hn hdd (hw d hdd).1 c3, bind_s]
        exact ⟨_, _, rfl, rfl, Mo_thrown_thrown _ _, kpA_thr _ _⟩
      · rw [if_neg c3, decide_eq_false (by omega), bif_f]
        exact ⟨_, _, rfl, rfl, Mo_thrown_thrown _ _, kpA_thr _ _⟩
    · rw [walkRoom_neg hn hdd w1 (by omega), bind_s, decide_eq_false (by omega), bif_f]
      exact ⟨_, _, rfl, rfl, Mo_thrown_thrown _ _, kpA_thr _ _⟩
  · obtain ⟨M', r1, r2, r3⟩ := raise_ax (M := M) 1
    rw [if_neg c, decide_eq_false c, bif_f, r1, bind_s]
    exact Or.inr ⟨false, _, M', rfl, rfl, rfl, r2, r3⟩
theorem case_618 (h : Inv n v0 v1 v3 v4 v5 v6 v8 v12 v17) (hc : c + 6 ≤ L) (hL : L ≤ 3072) : NX n c k23 (Law_618 L xs k23 (I (c : Int)) v0 v1 v2 v3 v4 v5 v6 v7 v8 v9 v10 v11 v12 v14 v15 v16 v17 v19) := by
  have h0 := h
  obtain ⟨Φ, Ψ, ls, b, len, a1, a2, a3, a4, -⟩ := h
  unfold Law_618
  rw [gd_t (in1 hc hL), gd_t (in2 hc hL)]
  unfold L_walk
  rcases walk_ax a3.1 a4 v0 (xs (Int32.toNatClampNeg (I (c : Int) + 1))) (xs (Int32.toNatClampNeg (I (c : Int) + 2))) with ⟨a, M', e1, e2, e3, e4⟩ | ⟨b, x, M', eb, e1, e2, e3, e4⟩
  · rw [e1, bind_s]
    unfold exC
    dsimp only
    rw [gd_t (show inB (0 : Int32) 1 = true from rfl), nmL_e, bind_s, e2, bind_s]
    unfold Mod_thrown
    rw [bind_s]
    dsimp only
    rw [e3, if_pos rfl, if_pos rfl, gd_t (show inB (0 : Int32) 1 = true from rfl), if_pos (show lg_cmp (vp_updL v19 (Int32.toNatClampNeg 0) (Int32.toInt64 a) (Int32.toNatClampNeg 0)) (Int32.toInt64 a) = 0 by rw [updL_i]; exact lg_self _), nmL_e]
    exact ⟨v0, v1, v2, v3, v4, v5, v6, v7, v8, v9, v10, v11, v12, v14, v15, v16, M', _, rfl, h0.keep e4⟩
  · have eb : b = false := eb
    subst eb
    rw [e1, bind_s]
    unfold exC
    dsimp only
    rw [bif_f, bind_s, e2, bind_s]
    unfold Mod_thrown
    rw [bind_s]
    dsimp only
    rw [e3, if_neg (show ¬ (false = true) by decide), if_pos rfl, if_neg (show ¬ (1 : Int32) = 0 by decide), nmL_e]
    exact ⟨v0, v1, v2, v3, v4, v5, v6, v7, v8, v9, v10, v11, v12, v14, v15, v16, M', _, rfl, h0.keep e4⟩
end CASES5
