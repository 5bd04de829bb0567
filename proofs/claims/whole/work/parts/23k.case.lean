section CASES11
variable {n c L : Nat} {k23 : K23} {xs : Nat → Int32} {v0 : GWV} {v1 v2 v5 v9 : HouseV} {v3 : HistV} {v4 : Nat → HouseV} {v6 v7 v10 : SightV} {v8 : BestV} {v11 : IntrV} {v12 : ToksV} {v14 : QReadV} {v15 v16 : Nat → Int32} {v17 M' : ModelV} {v19 : Nat → Int64}
/-- the doors between two rooms -/
theorem distance_ax {v : HouseV} {M : ModelV} (hv : HOK v) (hr : RelM (Model_now M) v) (g : GWV) (x y : Int32) : AX (fun b => b = false) M (GW_distance x y g v) (Mod_distance x y M) := by
  obtain ⟨hn, hd, hj, hl, hw, hs⟩ := hv
  have hR12 : hR v ≤ 12 := hn.2.2.1
  have hr0 : RelM (Model_now (Model_set_thrown M 0)) v := by rw [Mo_now_thrown]; exact hr
  obtain ⟨z, rfl, z1, z2⟩ := sel32 x
  obtain ⟨w, rfl, w1, w2⟩ := sel32 y
  unfold GW_distance Mod_distance
  rw [needRoom_s hn z1 z2, bind_s, nmL_e, isRoom_m hr0 hn z1 z2, bind_s]
  by_cases c : 0 ≤ z ∧ z < hR v
  · obtain ⟨a, rfl⟩ : ∃ d : Nat, z = (d : Int) := ⟨z.toNat, by omega⟩
    have hda : a < hR v := by omega
    rw [if_pos c, decide_eq_true c, bif_t]
    unfold exK
    dsimp only
    rw [needRoom_s hn w1 w2, bind_s, isRoom_m hr0 hn w1 w2, bind_s]
    by_cases c2 : 0 ≤ w ∧ w < hR v
    · obtain ⟨b, rfl⟩ : ∃ d : Nat, w = (d : Int) := ⟨w.toNat, by omega⟩
      have hdb : b < hR v := by omega
      obtain ⟨j, j1, j2⟩ := layJoined_m (M := Model_set_thrown M 0) hr0 hn hd
      obtain ⟨res, hres⟩ := dist_ex v a b
      have hP : ∃ P, P = Model_set_joined (Model_set_thrown M 0) j ∧ RelM (Model_now P) v ∧ (∀ r, r < hR v → Model_joined P r = I (jm v r : Int)) ∧ Model_thrown P = 0 ∧ kpA P = kpA M := by
        refine ⟨_, rfl, rel_jn hr0, fun r h => ?_, ?_, ?_⟩
        · rw [Mo_joined_joined]; exact j2 r h
        · rw [Mo_thrown_joined, Mo_thrown_thrown]
        · exact (congrArg (fun q => q.2) (kp_joined (Model_set_thrown M 0) j)).trans (kpA_thr _ _)
      obtain ⟨P, p0, p1, p2, p3, p4⟩ := hP
      rw [if_pos c2, decide_eq_true c2, bif_t, j1, bind_s, ← p0, nmL_e, I_shl a (by omega), distance38_m p1 hn hd p2 hda hdb hres]
      dsimp only
      rw [doorsBetween_s hn hd hj hda hdb hres, bind_s]
      exact Or.inl ⟨_, P, rfl, rfl, p3, p4⟩
    · obtain ⟨M', r1, r2, r3⟩ := raise_ax (M := M) 1
      rw [if_neg c2, decide_eq_false c2, bif_f]
      unfold Mod_distance_21
      rw [r1, bind_s]
      exact Or.inr ⟨false, _, M', rfl, rfl, rfl, r2, r3⟩
  · obtain ⟨M', r1, r2, r3⟩ := raise_ax (M := M) 1
    rw [if_neg c, decide_eq_false c, bif_f]
    unfold Mod_distance_21
    rw [r1, bind_s]
    exact Or.inr ⟨false, _, M', rfl, rfl, rfl, r2, r3⟩
theorem case_1021 (h : Inv n v0 v1 v3 v4 v5 v6 v8 v12 v17) (hc : c + 6 ≤ L) (hL : L ≤ 3072) : NX n c k23 (Law_1021 L xs k23 (I (c : Int)) v0 v1 v2 v3 v4 v5 v6 v7 v8 v9 v10 v11 v12 v14 v15 v16 v17 v19) := by
  have h0 := h
  obtain ⟨Φ, Ψ, ls, b, len, a1, a2, a3, a4, -⟩ := h
  unfold Law_1021
  rw [gd_t (in1 hc hL), gd_t (in2 hc hL)]
  unfold L_distance
  rcases distance_ax a3.1 a4 v0 (xs (Int32.toNatClampNeg (I (c : Int) + 1))) (xs (Int32.toNatClampNeg (I (c : Int) + 2))) with ⟨a, M', e1, e2, e3, e4⟩ | ⟨b, x, M', eb, e1, e2, e3, e4⟩
  · rw [e1, bind_s]
    unfold exC
    dsimp only
    rw [gd_t (show inB (0 : Int32) 1 = true from rfl), nmL_e, bind_s, e2, bind_s]
    unfold Mod_thrown
    rw [bind_s]
    dsimp only
    rw [e3, if_pos rfl, if_pos rfl, gd_t (show inB (0 : Int32) 1 = true from rfl), if_pos (show lg_cmp (vp_updL v19 (Int32.toNatClampNeg 0) (Int32.toInt64 a) (Int32.toNatClampNeg 0)) (Int32.toInt64 a) = 0 by rw [updL_i]; exact lg_self _), nmL_e]
    exact ⟨v0, v1, v2, v3, v4, v5, v6, v7, v8, v9, v10, v11, v12, v14, v15, v16, M', _, rfl, h0.keep e4⟩
  · have eb : b = false := eb
    subst eb
    rw [e1, bind_s]
    unfold exC
    dsimp only
    rw [bif_f, bind_s, e2, bind_s]
    unfold Mod_thrown
    rw [bind_s]
    dsimp only
    rw [e3, if_neg (show ¬ (false = true) by decide), if_pos rfl, if_neg (show ¬ (1 : Int32) = 0 by decide), nmL_e]
    exact ⟨v0, v1, v2, v3, v4, v5, v6, v7, v8, v9, v10, v11, v12, v14, v15, v16, M', _, rfl, h0.keep e4⟩
end CASES11
