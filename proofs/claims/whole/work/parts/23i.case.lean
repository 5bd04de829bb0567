section CASES9
variable {n c L : Nat} {k23 : K23} {xs : Nat → Int32} {v0 : GWV} {v1 v2 v5 v9 : HouseV} {v3 : HistV} {v4 : Nat → HouseV} {v6 v7 v10 : SightV} {v8 : BestV} {v11 : IntrV} {v12 : ToksV} {v14 : QReadV} {v15 v16 : Nat → Int32} {v17 M' : ModelV} {v19 : Nat → Int64}
/-- a property of a room -/
theorem room_as {v : HouseV} {M : ModelV} {s0 : SightV} (hv : HOK v) (hr : RelM (Model_now M) v) (hms : MS s0 v) (g : GWV) (x y : Int32) : AS v s0 M (GW_room x y g v s0) (Mod_room x y M) := by
  obtain ⟨hn, hd, hj, hl, hw, hs⟩ := id hv
  have hR12 : hR v ≤ 12 := hn.2.2.1
  have hr0 : RelM (Model_now (Model_set_thrown M 0)) v := by rw [Mo_now_thrown]; exact hr
  obtain ⟨z, rfl, z1, z2⟩ := sel32 x
  obtain ⟨w, rfl, w1, w2⟩ := sel32 y
  unfold GW_room Mod_room
  rw [needRoom_s hn z1 z2, bind_s, nmL_e, isRoom_m hr0 hn z1 z2, bind_s]
  by_cases c : 0 ≤ z ∧ z < hR v
  · obtain ⟨d, rfl⟩ : ∃ d : Nat, z = (d : Int) := ⟨z.toNat, by omega⟩
    have hdd : d < hR v := by omega
    obtain ⟨N, e, p1, p2, p3, p4⟩ := laid_pvm hr0 hn hw
    obtain ⟨N', e', q1, q2, q3, q4⟩ := laid_f hr0 hv
    have hNN : N' = N := by rw [e] at e'; exact (Option.some.inj e').symm
    rw [hNN] at q3
    have kT : Model_thrown N = 0 := (congrArg (fun q => q.1) p2).trans (Mo_thrown_thrown M 0)
    have kA : kpA N = kpA M := (congrArg (fun q => q.2) p2).trans (kpA_thr M 0)
    have hg := p1.2 d hdd
    have a5 := p1.1.2.2.2.2.1 d (by omega)
    have of : ∀ q, q < 5 → Mod_ofRoom (I (d : Int)) (I ((q : Nat) : Int)) N = some (Model_now N (4 + 5 * d + q)) := fun q hq => ofRoom_m (by omega) hq
    rw [if_pos c, decide_eq_true c, bif_t, e, bind_s, I_int w1 w2]
    unfold exK
    dsimp only
    by_cases c2 : 0 ≤ w ∧ w ≤ 7
    · rw [if_neg (show ¬ (w < 0 ∨ 7 < w) by omega), if_neg (show ¬ (w < 0 ∨ 7 < w) by omega)]
      left
      obtain ⟨s1, m1, m2, m3⟩ := measured_s hn hw hms g
      have gi : ∀ {α : Type} (k : Option α), gd (inB (I (d : Int)) 12) k = k := fun k => gd_I (by omega) (by omega) (by omega)
      have ic : (I (d : Int)).toNatClampNeg = d := I_clamp d (by omega)
      obtain rfl | rfl | rfl | rfl | rfl | rfl | rfl | rfl : w = 0 ∨ w = 1 ∨ w = 2 ∨ w = 3 ∨ w = 4 ∨ w = 5 ∨ w = 6 ∨ w = 7 := by omega
      · refine ⟨House_limits v d, s0, N, ?_, Or.inl rfl, ?_, kT, kA⟩
        · show gd (inB (I (d : Int)) 12) (some (Except.ok (House_limits v (I (d : Int)).toNatClampNeg, s0))) = _
          rw [gi, ic]
        · show (Option.bind (Mod_ofRoom (I (d : Int)) (I ((0 : Nat) : Int)) N) fun p => some (p, N)) = _
          rw [of 0 (by omega), bind_s, Nat.add_zero, a5.1]
      · refine ⟨I (gapC (Sg v d) (cyc v)), s1, N, ?_, Or.inr ⟨m2, m3⟩, ?_, kT, kA⟩
        · show (Option.bind (GW_measured g v s0) fun p => gd (inB (I (d : Int)) 12) (some (Except.ok (Sight_gaps p (I (d : Int)).toNatClampNeg, p)))) = _
          rw [m1, bind_s, gi, ic, (m2.1 d hdd).1]
        · show gd (inB (I (d : Int)) 12) (some (Model_gap N (I (d : Int)).toNatClampNeg, N)) = _
          rw [gi, ic, hg.1]
      · refine ⟨if late v d = true then 1 else 0, s1, N, ?_, Or.inr ⟨m2, m3⟩, ?_, kT, kA⟩
        · show (Option.bind (GW_measured g v s0) fun p73 => Option.bind (Sight_isLate (I (d : Int)) p73 v) fun p81 => bif p81 then some (Except.ok (1, p73)) else some (Except.ok (0, p73))) = _
          rw [m1, bind_s, isLate_s hn hw hl m2 hdd, bind_s]
          cases late v d <;> rfl
        · show (Option.bind (Mod_isLate (I (d : Int)) N) fun p88 => bif p88 then some (1, N) else some (0, N)) = _
          rw [q3 d hdd, bind_s]
          cases late v d <;> rfl
      · refine ⟨I (cntC (Sg v d) (cyc v)), s1, N, ?_, Or.inr ⟨m2, m3⟩, ?_, kT, kA⟩
        · show (Option.bind (GW_measured g v s0) fun p => gd (inB (I (d : Int)) 12) (some (Except.ok (Sight_seen p (I (d : Int)).toNatClampNeg, p)))) = _
          rw [m1, bind_s, gi, ic, (m2.1 d hdd).2.2]
        · show gd (inB (I (d : Int)) 12) (some (Model_seenCount N (I (d : Int)).toNatClampNeg, N)) = _
          rw [gi, ic, hg.2]
      · refine ⟨House_sightings v d, s0, N, ?_, Or.inl rfl, ?_, kT, kA⟩
        · show gd (inB (I (d : Int)) 12) (some (Except.ok (House_sightings v (I (d : Int)).toNatClampNeg, s0))) = _
          rw [gi, ic]
        · show (Option.bind (Mod_ofRoom (I (d : Int)) (I ((1 : Nat) : Int)) N) fun p => some (p, N)) = _
          rw [of 1 (by omega), bind_s, show 4 + 5 * d + 1 = 5 + 5 * d by omega, a5.2.1]
      · refine ⟨House_lastSeen v d, s0, N, ?_, Or.inl rfl, ?_, kT, kA⟩
        · show gd (inB (I (d : Int)) 12) (some (Except.ok (House_lastSeen v (I (d : Int)).toNatClampNeg, s0))) = _
          rw [gi, ic]
        · show (Option.bind (Mod_ofRoom (I (d : Int)) (I ((2 : Nat) : Int)) N) fun p => some (p, N)) = _
          rw [of 2 (by omega), bind_s, show 4 + 5 * d + 2 = 6 + 5 * d by omega, a5.2.2.1]
      · refine ⟨House_runs v d, s0, N, ?_, Or.inl rfl, ?_, kT, kA⟩
        · show gd (inB (I (d : Int)) 12) (some (Except.ok (House_runs v (I (d : Int)).toNatClampNeg, s0))) = _
          rw [gi, ic]
        · show (Option.bind (Mod_ofRoom (I (d : Int)) (I ((3 : Nat) : Int)) N) fun p => some (p, N)) = _
          rw [of 3 (by omega), bind_s, show 4 + 5 * d + 3 = 7 + 5 * d by omega, a5.2.2.2.1]
      · refine ⟨House_longestRuns v d, s0, N, ?_, Or.inl rfl, ?_, kT, kA⟩
        · show gd (inB (I (d : Int)) 12) (some (Except.ok (House_longestRuns v (I (d : Int)).toNatClampNeg, s0))) = _
          rw [gi, ic]
        · show (Option.bind (Mod_ofRoom (I (d : Int)) (I ((4 : Nat) : Int)) N) fun p => some (p, N)) = _
          rw [of 4 (by omega), bind_s, show 4 + 5 * d + 4 = 8 + 5 * d by omega, a5.2.2.2.2]
    · rw [if_pos (show w < 0 ∨ 7 < w by omega), if_pos (show w < 0 ∨ 7 < w by omega)]
      unfold Mod_raise
      rw [nmL_e, bind_s]
      exact Or.inr ⟨_, _, rfl, rfl, Mo_thrown_thrown _ _, (kpA_thr _ _).trans kA⟩
  · obtain ⟨M', r1, r2, r3⟩ := raise_ax (M := M) 1
    rw [if_neg c, decide_eq_false c, bif_f, r1, bind_s]
    exact Or.inr ⟨_, M', rfl, rfl, r2, r3⟩
theorem case_482 (h : Inv n v0 v1 v3 v4 v5 v6 v8 v12 v17) (hn : n ≤ 100000) (hc : c + 6 ≤ L) (hL : L ≤ 3072) : NX n c k23 (Law_482 L xs k23 (I (c : Int)) v0 v1 v2 v3 v4 v5 v6 v7 v8 v9 v10 v11 v12 v14 v15 v16 v17 v19) := by
  have h0 := h
  obtain ⟨Φ, Ψ, ls, b, len, a1, a2, a3, a4, a5, a6, a7, a8, a9, a10, a11, a12, a13⟩ := h
  unfold Law_482
  rw [gd_t (in1 hc hL), gd_t (in2 hc hL)]
  unfold L_room
  rcases room_as a3.1 a4 (a12.ms a3 (by omega)) v0 (xs (Int32.toNatClampNeg (I (c : Int) + 1))) (xs (Int32.toNatClampNeg (I (c : Int) + 2))) with ⟨a, s, M', e1, e5, e2, e3, e4⟩ | ⟨x, M', e1, e2, e3, e4⟩
  · rw [e1, bind_s]
    unfold exC
    dsimp only
    rw [gd_t (show inB (0 : Int32) 1 = true from rfl), nmL_e, bind_s, e2, bind_s]
    unfold Mod_thrown
    rw [bind_s]
    dsimp only
    rw [e3, if_pos rfl, if_pos rfl, gd_t (show inB (0 : Int32) 1 = true from rfl), if_pos (show lg_cmp (vp_updL v19 (Int32.toNatClampNeg 0) (Int32.toInt64 a) (Int32.toNatClampNeg 0)) (Int32.toInt64 a) = 0 by rw [updL_i]; exact lg_self _), nmL_e]
    exact ⟨v0, v1, v2, v3, v4, v5, s, v7, v8, v9, v10, v11, v12, v14, v15, v16, M', _, rfl, (h0.sight e5).keep e4⟩
  · rw [e1, bind_s]
    unfold exC
    dsimp only
    rw [bif_f, bind_s, e2, bind_s]
    unfold Mod_thrown
    rw [bind_s]
    dsimp only
    rw [e3, if_pos rfl, if_neg (show ¬ (1 : Int32) = 0 by decide), nmL_e]
    exact ⟨v0, v1, v2, v3, v4, v5, v6, v7, v8, v9, v10, v11, v12, v14, v15, v16, M', _, rfl, h0.keep e4⟩
end CASES9
