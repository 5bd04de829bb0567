section CASES20
variable {n c L : Nat} {k23 : K23} {xs : Nat → Int32} {v0 : GWV} {v1 v2 v5 v9 : HouseV} {v3 : HistV} {v4 : Nat → HouseV} {v6 v7 v10 : SightV} {v8 : BestV} {v11 : IntrV} {v12 : ToksV} {v14 : QReadV} {v15 v16 : Nat → Int32} {v17 M' : ModelV} {v19 : Nat → Int64}
/-- a walk is changed -/
theorem change_ay (h : Inv n v0 v1 v3 v4 v5 v6 v8 v12 v17) (x : Int32) : AI v17 (GW_change x v0 v1 v2 v3 v4 v12) (Mod_change x v17) (fun s M' => Inv (n + 1) s.1 s.2.1 s.2.2.2.1 s.2.2.2.2.1 v5 v6 v8 s.2.2.2.2.2 M') := by
  have h0 := h
  obtain ⟨Φ, Ψ, ls, b, len, a1, a2, a3, a4, a5, a6, a7, a8, a9, a10, a11, a12, a13⟩ := h
  have hv := a3.1
  obtain ⟨z, rfl, z1, z2⟩ := sel32 x
  have hb : b ≤ 600 := a6.2.2.1
  have hin : Mod_inRange (I z) 0 (I (b : Int)) = some (decide (0 ≤ z ∧ z ≤ (b : Int))) := inRange_s (a := 0) z1 z2 (by omega) (by omega) (by omega) (by omega)
  have hne : GW_needRange (I z) 0 (I (b : Int)) = some (if 0 ≤ z ∧ z ≤ (b : Int) then .ok () else .error true) := needRange_s (lo := 0) z1 z2 (by omega) (by omega) (by omega) (by omega)
  unfold GW_change Mod_change
  rw [a6.1, hne, bind_s, nmL_e, Mo_bufferLength_thrown, a6.2.1, hin, bind_s]
  by_cases c : 0 ≤ z ∧ z ≤ (b : Int)
  · obtain ⟨k, rfl⟩ : ∃ d : Nat, z = (d : Int) := ⟨z.toNat, by omega⟩
    obtain ⟨cl, c1, c2, -⟩ := copy_m (a := 0) (b := 0) (x1 := 0) (x3 := 0) (n0 := 172) (n1 := 172) (v0 := Model_now (Model_set_thrown v17 0)) rfl rfl (by omega) (by omega) (by omega) (by omega) (Model_draft (Model_set_thrown v17 0))
    have hcl : RelM cl v1 := rel_ext hv.1 hv.2.2.2.2.1 (fun j hj => by have := c2 j hj; rw [Nat.mul_zero, Nat.zero_add, Mo_now_thrown] at this; exact this) a4
    have kk : kp (Model_set_draft (Model_set_thrown v17 0) cl) = kp (Model_set_thrown v17 0) := kp_draft _ _
    have kD : Model_draft (Model_set_draft (Model_set_thrown v17 0) cl) = cl := Mo_draft_draft _ _
    rw [if_pos c, decide_eq_true c, bif_t, c1, bind_s, nmL_e]
    unfold exK
    dsimp only
    revert kk kD
    generalize Model_set_draft (Model_set_thrown v17 0) cl = M2
    intro kk kD
    have k1 : kpA M2 = kpA v17 := (congrArg (fun q => q.2) kk).trans (kpA_thr v17 0)
    have k2 : Model_thrown M2 = 0 := (congrArg (fun q => q.1) kk).trans (Mo_thrown_thrown v17 0)
    obtain ⟨t1, M3, f, e, kd, s1, s2, s3, s4, -⟩ := start_ss (buf_k a6 k1) (show k ≤ b by omega)
    obtain ⟨sc, sc1, sc2⟩ := copyFrom_s v2 v1
    rw [s1, bind_s, sc1, bind_s, s2, bind_s]
    left
    rcases readChange_ss s3 (hc_ok sc2 hv) (by rw [s4, kD]; exact hc_rel sc2 hv.1 hv.2.2.2.2.1 hcl) (I (k : Int)) with ⟨er, t2, u, M4, r1, r2, r3, r4, r5⟩ | ⟨t2, u, M4, f', e', r3, r4, r5, r6, r7⟩
    · obtain ⟨N, n1, n2, n3, n4⟩ := finish_er r5
      have hkM : kp M4 = kp M2 := r5.2.1
      rw [r3, bind_s, r4]
      unfold Mod_change_101
      dsimp only
      rw [endReading_c r5, bind_s, asB_1, check_t, bind_s, n1, bind_s]
      dsimp only
      rw [if_neg r5.c0, if_neg r5.c0, n4]
      exact ⟨_, (_, v1, u, v3, v4, _), N, rfl, rfl, n3.trans ((congrArg (fun q => q.1) hkM).trans k2), h0.text n2 ((congrArg (fun q => q.2) hkM).trans k1) rfl⟩
    · obtain ⟨N, n1, n2, n3, n4, n5, -⟩ := finish_ok r5.2.2.2
      have hkM : kp M4 = kp M2 := r5.2.2.1
      have hkA : kpA M4 = kpA v17 := (congrArg (fun q => q.2) hkM).trans k1
      have e1 : Model_now N = Model_now v17 := (congrArg (fun q => q.1) n2).trans (congrArg (fun q => q.1) hkA)
      have e2 : Model_snapshot N = Model_snapshot v17 := (congrArg (fun q => q.2.1) n2).trans (congrArg (fun q => q.2.1) hkA)
      have e3 : Model_history N = Model_history v17 := (congrArg (fun q => q.2.2.1) n2).trans (congrArg (fun q => q.2.2.1) hkA)
      have e4 : Model_undoCount N = Model_undoCount v17 := (congrArg (fun q => q.2.2.2.1) n2).trans (congrArg (fun q => q.2.2.2.1) hkA)
      have e5 : Model_hasSnapshot N = Model_hasSnapshot v17 := (congrArg (fun q => q.2.2.2.2.1) n2).trans (congrArg (fun q => q.2.2.2.2.1) hkA)
      have e6 : Model_formatted N = Model_formatted v17 := (congrArg (fun q => q.2.2.2.2.2.1) n2).trans (congrArg (fun q => q.2.2.2.2.2.1) hkA)
      have e7 : Model_formattedLength N = Model_formattedLength v17 := (congrArg (fun q => q.2.2.2.2.2.2.1) n2).trans (congrArg (fun q => q.2.2.2.2.2.2.1) hkA)
      have e9 : Model_bufferLength N = 0 := congrArg (fun q => q.2.2.2.2.2.2.2.2.1) n2
      have e10 : Model_errorPosition N = -1 := congrArg (fun q => q.2.2.2.2.2.2.2.2.2) n2
      have hq : kpQ N = kpQ v17 := by
        unfold kpQ
        rw [e2, e3, e4, e5, e6, e7]
      obtain ⟨Φ2, Ψ2, l2, h', e', M5, o1, o2, o3, o4, o5, o6, o7, o8, o9, o10, o11, o12, o13, o14⟩ := h0.op e1 hq
      have hdr := rec_d o7
      rw [r3, bind_s, r4]
      unfold Mod_change_101
      dsimp only
      rw [endReading_0, bind_s, asB_1, check_t, bind_s, n1, bind_s]
      dsimp only
      rw [if_pos rfl, if_pos rfl, o6, bind_s, o7, bind_s]
      obtain ⟨wd, d1, d2, -⟩ := copy_m (a := 0) (b := 0) (x1 := 0) (x3 := 0) (n0 := 172) (n1 := 172) (v0 := Model_draft M5) rfl rfl (by omega) (by omega) (by omega) (by omega) (Model_now M5)
      have hrel : RelM wd u := rel_ext r6.1 r6.2.2.2.2.1 (fun j hj => by have := d2 j hj; rw [Nat.mul_zero, Nat.zero_add] at this; rw [this, hdr, n5]) r7
      obtain ⟨w1, y1, y2⟩ := copyFrom_s v1 u
      have hrel1 : RelM wd w1 := hc_rel y2 r6.1 r6.2.2.2.2.1 hrel
      have hl : GW_lastStamp (GW_set_lastErrorPosition v0 (-1)) = I (l2 : Int) := o1
      obtain ⟨g', w, q1, q2, q3, q4, q5, q6, q7, q8, q9⟩ := markW_s (hc_ok y2 r6) hl
      obtain ⟨Φ', Ψ', j1, j2, hj⟩ := JJ.walks (ls := l2) q6 q7 q8 Φ2 Ψ2
      have hr5 : RelM (Model_now (Model_set_now M5 wd)) w := by rw [Mo_now_now]; exact q9 _ hrel1
      rw [y1, bind_s, q1, bind_s, d1, bind_s, nmL_e, cycle_m hr5 q6.1 q6.2.2.2.2.1, bind_s]
      dsimp only
      rw [cycleLength_s q6.1 q6.2.2.2.2.1, bind_s]
      refine ⟨_, (g', w, u, h', e', _), _, rfl, rfl, (Mo_thrown_now _ _).trans (o8.trans (n3.trans ((congrArg (fun q => q.1) hkM).trans k2))), ?_⟩
      refine o14 Φ' Ψ' (l2 + 1) g' w v6 v8 _ 0 _ q2 (by omega) (by omega) j1 j2 hj hr5 (kpN_q (kpN_now _ _)) ⟨rfl, ?_, by omega, fun i hi => absurd hi (by omega)⟩ ?_ ?_ ?_ (o4.mono (by omega) j1) (o5.mono (by omega) j2)
      · rw [Mo_bufferLength_now, o12, e9]; rfl
      · rw [q3, Mo_errorPosition_now, o13, e10]; rfl
      · rw [q4]; rfl
      · rw [q5]; rfl
  · obtain ⟨M', r1, r2, r3⟩ := raise_ax (M := v17) 1
    rw [if_neg c, decide_eq_false c, bif_f, r1, bind_s]
    exact Or.inr ⟨true, _, M', rfl, rfl, rfl, r2, r3⟩
theorem case_2029 (h : Inv n v0 v1 v3 v4 v5 v6 v8 v12 v17) (hc : c + 6 ≤ L) (hL : L ≤ 3072) : NX n c k23 (Law_2029 L xs k23 (I (c : Int)) v0 v1 v2 v3 v4 v5 v6 v7 v8 v9 v10 v11 v12 v14 v15 v16 v17 v19) := by
  have h0 := h
  unfold Law_2029
  rw [gd_t (in1 hc hL)]
  unfold L_change
  rcases change_ay (v2 := v2) h0 (xs (Int32.toNatClampNeg (I (c : Int) + 1))) with ⟨a, s, M', e1, e2, e3, e4⟩ | ⟨b, x, M', eb, e1, e2, e3, e4⟩
  · rw [e1, bind_s]
    unfold exC
    dsimp only
    rw [gd_t (show inB (0 : Int32) 1 = true from rfl), nmL_e, bind_s, e2, bind_s]
    unfold Mod_thrown
    rw [bind_s]
    dsimp only
    rw [e3, if_pos rfl, if_pos rfl, gd_t (show inB (0 : Int32) 1 = true from rfl), if_pos (show lg_cmp (vp_updL v19 (Int32.toNatClampNeg 0) (Int32.toInt64 a) (Int32.toNatClampNeg 0)) (Int32.toInt64 a) = 0 by rw [updL_i]; exact lg_self _), nmL_e]
    exact ⟨s.1, s.2.1, s.2.2.1, s.2.2.2.1, s.2.2.2.2.1, v5, v6, v7, v8, v9, v10, v11, s.2.2.2.2.2, v14, v15, v16, M', _, rfl, e4⟩
  · have eb : b = true := eb
    subst eb
    rw [e1, bind_s]
    unfold exC
    dsimp only
    rw [bif_t, bind_s, e2, bind_s]
    unfold Mod_thrown
    rw [bind_s]
    dsimp only
    rw [e3, if_pos rfl, if_neg (show ¬ (1 : Int32) = 0 by decide), nmL_e]
    exact ⟨v0, v1, v2, v3, v4, v5, v6, v7, v8, v9, v10, v11, v12, v14, v15, v16, M', _, rfl, h0.keep e4⟩
/-- a query is answered -/
theorem query_ay (h : Inv n v0 v1 v3 v4 v5 v6 v8 v12 v17) (hnn : n ≤ 99999) (x : Int32) : AI v17 (GW_query x v0 v1 v6 v12 v14 v15 v16) (Mod_query x v17) (fun s M' => Inv (n + 1) s.1 v1 v3 v4 v5 s.2.1 v8 s.2.2.1 M') := by
  have h0 := h
  obtain ⟨Φ, Ψ, ls, b, len, a1, a2, a3, a4, a5, a6, a7, a8, a9, a10, a11, a12, a13⟩ := h
  have hv := a3.1
  have hms : MS v6 v1 := a12.ms a3 (by omega)
  obtain ⟨z, rfl, z1, z2⟩ := sel32 x
  have hb : b ≤ 600 := a6.2.2.1
  have hmin1 : imin 200 (I (b : Int)) = I (min 200 (b : Int)) := imin_I (a := 200) (by omega) (by omega) (by omega) (by omega)
  have hmin2 : imin (I (b : Int)) 200 = I (min (b : Int) 200) := imin_I (b := 200) (by omega) (by omega) (by omega) (by omega)
  have hin : Mod_inRange (I z) 0 (I (min (b : Int) 200)) = some (decide (0 ≤ z ∧ z ≤ min 200 (b : Int))) := by
    rw [Int.min_comm]
    exact inRange_s (a := 0) z1 z2 (by omega) (by omega) (by omega) (by omega)
  have hne : GW_needRange (I z) 0 (I (min 200 (b : Int))) = some (if 0 ≤ z ∧ z ≤ min 200 (b : Int) then .ok () else .error true) := needRange_s (lo := 0) z1 z2 (by omega) (by omega) (by omega) (by omega)
  unfold GW_query Mod_query
  rw [a6.1, hmin1, hne, bind_s, nmL_e, Mo_bufferLength_thrown, a6.2.1, hmin2, hin, bind_s]
  by_cases c : 0 ≤ z ∧ z ≤ min 200 (b : Int)
  · obtain ⟨k, rfl⟩ : ∃ d : Nat, z = (d : Int) := ⟨z.toNat, by omega⟩
    have kk : kp (Model_set_codeCount (Model_set_thrown v17 0) 0) = kp (Model_set_thrown v17 0) := kp_codeCount _ _
    have kD : Model_codeCount (Model_set_codeCount (Model_set_thrown v17 0) 0) = 0 := Mo_codeCount_codeCount _ _
    rw [if_pos c, decide_eq_true c, bif_t, nmL_e]
    unfold exK
    dsimp only
    revert kk kD
    generalize Model_set_codeCount (Model_set_thrown v17 0) 0 = M2
    intro kk kD
    have k1 : kpA M2 = kpA v17 := (congrArg (fun q => q.2) kk).trans (kpA_thr v17 0)
    have k2 : Model_thrown M2 = 0 := (congrArg (fun q => q.1) kk).trans (Mo_thrown_thrown v17 0)
    obtain ⟨t1, M3, f, e, kd, s1, s2, s3, s4, s5, s6, s7⟩ := start_ss (buf_k a6 k1) (show k ≤ b by omega)
    obtain ⟨sg, g1, g2, g3⟩ := measured_s hv.1 hv.2.2.2.2.1 hms v0
    have hsg : Inv n v0 v1 v3 v4 v5 sg v8 v12 v17 := h0.sight (Or.inr ⟨g2, g3⟩)
    rw [s1, bind_s, g1, bind_s, s2, bind_s]
    left
    rcases query_ss s3 (show k ≤ 200 by omega) hv g2 (s7.trans kD) s5 v14 v15 v16 (I (k : Int)) with ⟨er, q', t2, A', B', M4, x2, r1, r2, r3, r4, r5⟩ | ⟨many, S, cc, a, q', t2, A', B', M4, f', e', r3, r4, r5, r6, r7, r8, r9, r10, r11⟩
    · obtain ⟨N, n1, n2, n3⟩ := q99_er r5 (I (k : Int)) x2
      have hkM : kp M4 = kp M2 := r5.2.1
      have r4' : (Option.bind (Mod_isWord 52 M3) fun p43 => nmL (b2i p43) fun (x2_46 : Int32) => if x2_46 = 0 then Option.bind (Mod_isWord 53 M3) fun p56 => bif p56 then Mod_query_62 (I (k : Int)) x2_46 M3 else Mod_query_67 (I (k : Int)) x2_46 0 M3 else Mod_query_62 (I (k : Int)) x2_46 M3) = some ((-1000000000) - I (er : Int), N) := Eq.trans r4 n1
      rw [r3, bind_s, r4']
      dsimp only
      rw [endReading_c r5, bind_s]
      dsimp only
      rw [if_neg r5.c0]
      exact ⟨_, (_, sg, _, q', A', B'), N, rfl, rfl, n3.trans ((congrArg (fun q => q.1) hkM).trans k2), hsg.text n2 ((congrArg (fun q => q.2) hkM).trans k1) rfl⟩
    · have hkM : kp M4 = kp M2 := r5.2.2.1
      have hkA : kpA M4 = kpA v17 := (congrArg (fun q => q.2) hkM).trans k1
      have hr4 : RelM (Model_now M4) v1 := by rw [show Model_now M4 = Model_now v17 from congrArg (fun q => q.1) hkA]; exact a4
      obtain ⟨N, a', n1, n2, n3, n4⟩ := q99_ok hv hr4 r5.2.2.2 r9 r10 r11 many (I (k : Int))
      have r4' : (Option.bind (Mod_isWord 52 M3) fun p43 => nmL (b2i p43) fun (x2_46 : Int32) => if x2_46 = 0 then Option.bind (Mod_isWord 53 M3) fun p56 => bif p56 then Mod_query_62 (I (k : Int)) x2_46 M3 else Mod_query_67 (I (k : Int)) x2_46 0 M3 else Mod_query_62 (I (k : Int)) x2_46 M3) = some (I a', N) := Eq.trans r4 n1
      have haa : a = a' := ans_uni r7 n2
      rw [r3, bind_s, r4']
      dsimp only
      rw [endReading_0, bind_s]
      dsimp only
      rw [if_pos rfl, r6, haa]
      exact ⟨_, (_, sg, _, q', A', B'), N, rfl, rfl, n4.trans ((congrArg (fun q => q.1) hkM).trans k2), hsg.text n3 hkA rfl⟩
  · obtain ⟨M', r1, r2, r3⟩ := raise_ax (M := v17) 1
    rw [if_neg c, decide_eq_false c, bif_f, r1, bind_s]
    exact Or.inr ⟨true, _, M', rfl, rfl, rfl, r2, r3⟩
theorem case_2173 (h : Inv n v0 v1 v3 v4 v5 v6 v8 v12 v17) (hn : n ≤ 99999) (hc : c + 6 ≤ L) (hL : L ≤ 3072) : NX n c k23 (Law_2173 L xs k23 (I (c : Int)) v0 v1 v2 v3 v4 v5 v6 v7 v8 v9 v10 v11 v12 v14 v15 v16 v17 v19) := by
  have h0 := h
  unfold Law_2173
  rw [gd_t (in1 hc hL)]
  unfold L_query
  rcases query_ay (v14 := v14) (v15 := v15) (v16 := v16) h0 (show n ≤ 99999 from hn) (xs (Int32.toNatClampNeg (I (c : Int) + 1))) with ⟨a, s, M', e1, e2, e3, e4⟩ | ⟨b, x, M', eb, e1, e2, e3, e4⟩
  · rw [e1, bind_s]
    unfold exC
    dsimp only
    rw [gd_t (show inB (0 : Int32) 1 = true from rfl), nmL_e, bind_s, e2, bind_s]
    unfold Mod_thrown
    rw [bind_s]
    dsimp only
    rw [e3, if_pos rfl, if_pos rfl, gd_t (show inB (0 : Int32) 1 = true from rfl), if_pos (show lg_cmp (vp_updL v19 (Int32.toNatClampNeg 0) (Int32.toInt64 a) (Int32.toNatClampNeg 0)) (Int32.toInt64 a) = 0 by rw [updL_i]; exact lg_self _), nmL_e]
    exact ⟨s.1, v1, v2, v3, v4, v5, s.2.1, v7, v8, v9, v10, v11, s.2.2.1, s.2.2.2.1, s.2.2.2.2.1, s.2.2.2.2.2, M', _, rfl, e4⟩
  · have eb : b = true := eb
    subst eb
    rw [e1, bind_s]
    unfold exC
    dsimp only
    rw [bif_t, bind_s, e2, bind_s]
    unfold Mod_thrown
    rw [bind_s]
    dsimp only
    rw [e3, if_pos rfl, if_neg (show ¬ (1 : Int32) = 0 by decide), nmL_e]
    exact ⟨v0, v1, v2, v3, v4, v5, v6, v7, v8, v9, v10, v11, v12, v14, v15, v16, M', _, rfl, h0.keep e4⟩
end CASES20
