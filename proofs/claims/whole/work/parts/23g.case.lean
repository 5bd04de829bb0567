section CASES7
variable {n c L : Nat} {k23 : K23} {xs : Nat → Int32} {v0 : GWV} {v1 v2 v5 v9 : HouseV} {v3 : HistV} {v4 : Nat → HouseV} {v6 v7 v10 : SightV} {v8 : BestV} {v11 : IntrV} {v12 : ToksV} {v14 : QReadV} {v15 v16 : Nat → Int32} {v17 M' : ModelV} {v19 : Nat → Int64}
theorem roomOf_ax {v : HouseV} {M : ModelV} (hv : HOK v) (hr : RelM (Model_now M) v) (g : GWV) (x y : Int32) : AX (fun _ => True) M (GW_roomOf x y g v) (Mod_roomOf x y M) := by
  obtain ⟨hn, hd, hj, hl, hw, hs⟩ := hv
  have hG4 : hG v ≤ 4 := hn.2.2.2.2.2.2.1
  have hR12 : hR v ≤ 12 := hn.2.2.1
  have hr0 : RelM (Model_now (Model_set_thrown M 0)) v := by rw [Mo_now_thrown]; exact hr
  obtain ⟨z, rfl, z1, z2⟩ := sel32 x
  obtain ⟨w, rfl, w1, w2⟩ := sel32 y
  unfold GW_roomOf Mod_roomOf
  rw [needGuard_s hn z1 z2, bind_s, isGuard_m hr hn z1 z2, bind_s]
  by_cases c : 0 ≤ z ∧ z < hG v
  · obtain ⟨d, rfl⟩ : ∃ d : Nat, z = (d : Int) := ⟨z.toNat, by omega⟩
    have hdd : d < hG v := by omega
    rw [if_pos c, decide_eq_true c, bif_t]
    unfold exK GW_needNotNegative Mod_roomOf_22
    dsimp only
    by_cases c2 : 0 ≤ w
    · obtain ⟨s, rfl⟩ : ∃ s : Nat, w = (s : Int) := ⟨w.toNat, by omega⟩
      obtain ⟨f, t1, t2⟩ := takePhases_m (M := Model_set_thrown M 0) hr0 hn
      have hph := PhM.of (M := Model_set_thrown M 0) hw t2
      have hP : ∃ P, P = Model_set_phases (Model_set_thrown M 0) f ∧ RelM (Model_now P) v ∧ PhM P v (hF v) ∧ Model_thrown P = 0 ∧ kpA P = kpA M := by
        refine ⟨_, rfl, rel_ph hr0, hph, ?_, ?_⟩
        · rw [Mo_thrown_phases, Mo_thrown_thrown]
        · exact (congrArg (fun q => q.2) (kp_phases (Model_set_thrown M 0) f)).trans (kpA_thr _ _)
      obtain ⟨P, p0, p1, p2, p3, p4⟩ := hP
      rw [if_pos (show (0 : Int32) ≤ I (s : Int) from I_le_t (a := 0) (b := (s : Int)) (by omega) (by omega) (by omega)), bind_s, if_neg (neg_f (by omega))]
      dsimp only
      rw [roomAt_s hn hdd (hw d hdd) (by omega), bind_s, nmL_e, if_pos (Mo_thrown_thrown M 0), t1, bind_s, ← p0, place_m p1 hn p2 hdd (hw d hdd) (by omega), bind_s]
      exact Or.inl ⟨_, P, rfl, rfl, p3, p4⟩
    · rw [if_neg (show ¬ (0 : Int32) ≤ I w from I_le_f (a := 0) (b := w) (by omega) (by omega) (by omega)), bind_s, if_pos (show I w < (0 : Int32) from I_lt_t (a := w) (b := 0) (by omega) (by omega) (by omega))]
      dsimp only
      rw [nmL_e, if_neg (show ¬ Model_thrown (Model_set_thrown M 2) = 0 by rw [Mo_thrown_thrown]; decide)]
      exact Or.inr ⟨true, _, _, trivial, rfl, rfl, Mo_thrown_thrown _ _, kpA_thr _ _⟩
  · rw [if_neg c, decide_eq_false c, bif_f]
    unfold exK Mod_roomOf_22
    dsimp only
    rw [nmL_e, if_neg (show ¬ Model_thrown (Model_set_thrown M 1) = 0 by rw [Mo_thrown_thrown]; decide)]
    exact Or.inr ⟨false, _, _, trivial, rfl, rfl, Mo_thrown_thrown _ _, kpA_thr _ _⟩
theorem case_686 (h : Inv n v0 v1 v3 v4 v5 v6 v8 v12 v17) (hc : c + 6 ≤ L) (hL : L ≤ 3072) : NX n c k23 (Law_686 L xs k23 (I (c : Int)) v0 v1 v2 v3 v4 v5 v6 v7 v8 v9 v10 v11 v12 v14 v15 v16 v17 v19) := by
  have h0 := h
  obtain ⟨Φ, Ψ, ls, b, len, a1, a2, a3, a4, -⟩ := h
  unfold Law_686
  rw [gd_t (in1 hc hL), gd_t (in2 hc hL)]
  unfold L_roomOf
  rcases roomOf_ax a3.1 a4 v0 (xs (Int32.toNatClampNeg (I (c : Int) + 1))) (xs (Int32.toNatClampNeg (I (c : Int) + 2))) with ⟨a, M', e1, e2, e3, e4⟩ | ⟨b, x, M', eb, e1, e2, e3, e4⟩
  · rw [e1, bind_s]
    unfold exC
    dsimp only
    rw [gd_t (show inB (0 : Int32) 1 = true from rfl), nmL_e, bind_s, e2, bind_s]
    unfold Mod_thrown
    rw [bind_s]
    dsimp only
    rw [e3, if_pos rfl, if_pos rfl, gd_t (show inB (0 : Int32) 1 = true from rfl), if_pos (show lg_cmp (vp_updL v19 (Int32.toNatClampNeg 0) (Int32.toInt64 a) (Int32.toNatClampNeg 0)) (Int32.toInt64 a) = 0 by rw [updL_i]; exact lg_self _), nmL_e]
    exact ⟨v0, v1, v2, v3, v4, v5, v6, v7, v8, v9, v10, v11, v12, v14, v15, v16, M', _, rfl, h0.keep e4⟩
  · rw [e1, bind_s]
    unfold exC
    dsimp only
    cases b
    · rw [bif_f, bind_s, e2, bind_s]
      unfold Mod_thrown
      rw [bind_s]
      dsimp only
      rw [e3, if_neg (show ¬ (false = true) by decide), if_pos rfl, if_neg (show ¬ (1 : Int32) = 0 by decide), nmL_e]
      exact ⟨v0, v1, v2, v3, v4, v5, v6, v7, v8, v9, v10, v11, v12, v14, v15, v16, M', _, rfl, h0.keep e4⟩
    · rw [bif_t, bind_s, e2, bind_s]
      unfold Mod_thrown
      rw [bind_s]
      dsimp only
      rw [e3, if_pos (show true = true from rfl), if_pos rfl, if_neg (show ¬ (2 : Int32) = 0 by decide), nmL_e]
      exact ⟨v0, v1, v2, v3, v4, v5, v6, v7, v8, v9, v10, v11, v12, v14, v15, v16, M', _, rfl, h0.keep e4⟩
theorem guardsIn_ax {v : HouseV} {M : ModelV} (hv : HOK v) (hr : RelM (Model_now M) v) (g : GWV) (x y : Int32) : AX (fun _ => True) M (GW_guardsIn x y g v) (Mod_guardsIn x y M) := by
  obtain ⟨hn, hd, hj, hl, hw, hs⟩ := hv
  have hG4 : hG v ≤ 4 := hn.2.2.2.2.2.2.1
  have hR12 : hR v ≤ 12 := hn.2.2.1
  have hr0 : RelM (Model_now (Model_set_thrown M 0)) v := by rw [Mo_now_thrown]; exact hr
  obtain ⟨z, rfl, z1, z2⟩ := sel32 x
  obtain ⟨w, rfl, w1, w2⟩ := sel32 y
  unfold GW_guardsIn Mod_guardsIn
  rw [needRoom_s hn z1 z2, bind_s, isRoom_m hr hn z1 z2, bind_s]
  by_cases c : 0 ≤ z ∧ z < hR v
  · obtain ⟨d, rfl⟩ : ∃ d : Nat, z = (d : Int) := ⟨z.toNat, by omega⟩
    have hdd : d < hR v := by omega
    rw [if_pos c, decide_eq_true c, bif_t]
    unfold exK GW_needNotNegative Mod_guardsIn_22
    dsimp only
    by_cases c2 : 0 ≤ w
    · obtain ⟨s, rfl⟩ : ∃ s : Nat, w = (s : Int) := ⟨w.toNat, by omega⟩
      obtain ⟨f, t1, t2⟩ := takePhases_m (M := Model_set_thrown M 0) hr0 hn
      have hph := PhM.of (M := Model_set_thrown M 0) hw t2
      have hP : ∃ P, P = Model_set_phases (Model_set_thrown M 0) f ∧ RelM (Model_now P) v ∧ PhM P v (hF v) ∧ Model_thrown P = 0 ∧ kpA P = kpA M := by
        refine ⟨_, rfl, rel_ph hr0, hph, ?_, ?_⟩
        · rw [Mo_thrown_phases, Mo_thrown_thrown]
        · exact (congrArg (fun q => q.2) (kp_phases (Model_set_thrown M 0) f)).trans (kpA_thr _ _)
      obtain ⟨P, p0, p1, p2, p3, p4⟩ := hP
      rw [if_pos (show (0 : Int32) ≤ I (s : Int) from I_le_t (a := 0) (b := (s : Int)) (by omega) (by omega) (by omega)), bind_s, if_neg (neg_f (by omega))]
      dsimp only
      rw [guardsAt_s hn hw (by omega) (by omega), bind_s, nmL_e, if_pos (Mo_thrown_thrown M 0), t1, bind_s, ← p0, guardsAt_m p1 hn hw p2 (by omega) (by omega), bind_s]
      exact Or.inl ⟨_, P, rfl, rfl, p3, p4⟩
    · rw [if_neg (show ¬ (0 : Int32) ≤ I w from I_le_f (a := 0) (b := w) (by omega) (by omega) (by omega)), bind_s, if_pos (show I w < (0 : Int32) from I_lt_t (a := w) (b := 0) (by omega) (by omega) (by omega))]
      dsimp only
      rw [nmL_e, if_neg (show ¬ Model_thrown (Model_set_thrown M 2) = 0 by rw [Mo_thrown_thrown]; decide)]
      exact Or.inr ⟨true, _, _, trivial, rfl, rfl, Mo_thrown_thrown _ _, kpA_thr _ _⟩
  · rw [if_neg c, decide_eq_false c, bif_f]
    unfold exK Mod_guardsIn_22
    dsimp only
    rw [nmL_e, if_neg (show ¬ Model_thrown (Model_set_thrown M 1) = 0 by rw [Mo_thrown_thrown]; decide)]
    exact Or.inr ⟨false, _, _, trivial, rfl, rfl, Mo_thrown_thrown _ _, kpA_thr _ _⟩
theorem case_754 (h : Inv n v0 v1 v3 v4 v5 v6 v8 v12 v17) (hc : c + 6 ≤ L) (hL : L ≤ 3072) : NX n c k23 (Law_754 L xs k23 (I (c : Int)) v0 v1 v2 v3 v4 v5 v6 v7 v8 v9 v10 v11 v12 v14 v15 v16 v17 v19) := by
  have h0 := h
  obtain ⟨Φ, Ψ, ls, b, len, a1, a2, a3, a4, -⟩ := h
  unfold Law_754
  rw [gd_t (in1 hc hL), gd_t (in2 hc hL)]
  unfold L_guardsIn
  rcases guardsIn_ax a3.1 a4 v0 (xs (Int32.toNatClampNeg (I (c : Int) + 1))) (xs (Int32.toNatClampNeg (I (c : Int) + 2))) with ⟨a, M', e1, e2, e3, e4⟩ | ⟨b, x, M', eb, e1, e2, e3, e4⟩
  · rw [e1, bind_s]
    unfold exC
    dsimp only
    rw [gd_t (show inB (0 : Int32) 1 = true from rfl), nmL_e, bind_s, e2, bind_s]
    unfold Mod_thrown
    rw [bind_s]
    dsimp only
    rw [e3, if_pos rfl, if_pos rfl, gd_t (show inB (0 : Int32) 1 = true from rfl), if_pos (show lg_cmp (vp_updL v19 (Int32.toNatClampNeg 0) (Int32.toInt64 a) (Int32.toNatClampNeg 0)) (Int32.toInt64 a) = 0 by rw [updL_i]; exact lg_self _), nmL_e]
    exact ⟨v0, v1, v2, v3, v4, v5, v6, v7, v8, v9, v10, v11, v12, v14, v15, v16, M', _, rfl, h0.keep e4⟩
  · rw [e1, bind_s]
    unfold exC
    dsimp only
    cases b
    · rw [bif_f, bind_s, e2, bind_s]
      unfold Mod_thrown
      rw [bind_s]
      dsimp only
      rw [e3, if_neg (show ¬ (false = true) by decide), if_pos rfl, if_neg (show ¬ (1 : Int32) = 0 by decide), nmL_e]
      exact ⟨v0, v1, v2, v3, v4, v5, v6, v7, v8, v9, v10, v11, v12, v14, v15, v16, M', _, rfl, h0.keep e4⟩
    · rw [bif_t, bind_s, e2, bind_s]
      unfold Mod_thrown
      rw [bind_s]
      dsimp only
      rw [e3, if_pos (show true = true from rfl), if_pos rfl, if_neg (show ¬ (2 : Int32) = 0 by decide), nmL_e]
      exact ⟨v0, v1, v2, v3, v4, v5, v6, v7, v8, v9, v10, v11, v12, v14, v15, v16, M', _, rfl, h0.keep e4⟩
end CASES7
