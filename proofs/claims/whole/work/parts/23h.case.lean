section CASES8
variable {n c L : Nat} {k23 : K23} {xs : Nat → Int32} {v0 : GWV} {v1 v2 v5 v9 : HouseV} {v3 : HistV} {v4 : Nat → HouseV} {v6 v7 v10 : SightV} {v8 : BestV} {v11 : IntrV} {v12 : ToksV} {v14 : QReadV} {v15 v16 : Nat → Int32} {v17 M' : ModelV} {v19 : Nat → Int64}
/-- what the two answer to a call that may measure -/
def AS (v : HouseV) (s0 : SightV) (M : ModelV) (gw : Option (Except Bool (Int32 × SightV))) (mod : Option (Int32 × ModelV)) : Prop := (∃ a s M', gw = some (.ok (a, s)) ∧ MSn s0 s v ∧ mod = some (a, M') ∧ Model_thrown M' = 0 ∧ kpA M' = kpA M) ∨ (∃ (x : Int32) (M' : ModelV), gw = some (.error false) ∧ mod = some (x, M') ∧ Model_thrown M' = 1 ∧ kpA M' = kpA M)
/-- other sightings of the same house -/
theorem Inv.sight (h : Inv n v0 v1 v3 v4 v5 v6 v8 v12 v17) {s : SightV} (hs : MSn v6 s v1) : Inv n v0 v1 v3 v4 v5 s v8 v12 v17 := by
  obtain ⟨Φ, Ψ, ls, b, len, a1, a2, a3, a4, a5, a6, a7, a8, a9, a10, a11, a12, a13⟩ := h
  refine ⟨Φ, Ψ, ls, b, len, a1, a2, a3, a4, a5, a6, a7, a8, a9, a10, a11, ?_, a13⟩
  rcases hs with hs | ⟨h1, h2⟩
  · rw [hs]; exact a12
  · exact SI2.of a3 h1 h2
/-- a number of the house -/
theorem size_as {v : HouseV} {M : ModelV} {s0 : SightV} (hv : HOK v) (hr : RelM (Model_now M) v) (hms : MS s0 v) (g : GWV) (x : Int32) : AS v s0 M (GW_size x g v s0) (Mod_size x M) := by
  obtain ⟨hn, hd, hj, hl, hw, hs⟩ := id hv
  have hr0 : RelM (Model_now (Model_set_thrown M 0)) v := by rw [Mo_now_thrown]; exact hr
  obtain ⟨z, rfl, z1, z2⟩ := sel32 x
  obtain ⟨ph, cy, f, l, s, gg, b, e, h1, h2, h3⟩ := layNow_m hr0 hn hw
  have hrB : RelM (Model_now (Model_set_cycleNow (Model_set_phases (Model_set_thrown M 0) ph) cy)) v := by rw [Mo_now_cycleNow, Mo_now_phases]; exact hr0
  have hrL := rel_ML (f := f) (l := l) (s := s) (g := gg) (b := b) hrB
  have phL : PhM (ML (Model_set_cycleNow (Model_set_phases (Model_set_thrown M 0) ph) cy) f l s gg b) v (hF v) := ph_ML fun q hq => by rw [Mo_phases_cycleNow]; exact h2 q hq
  have kT : Model_thrown (ML (Model_set_cycleNow (Model_set_phases (Model_set_thrown M 0) ph) cy) f l s gg b) = 0 := by rw [MLo_thrown, Mo_thrown_cycleNow, Mo_thrown_phases, Mo_thrown_thrown]
  have kA : kpA (ML (Model_set_cycleNow (Model_set_phases (Model_set_thrown M 0) ph) cy) f l s gg b) = kpA M := (congrArg (fun q => q.2) (show kp _ = kp (Model_set_thrown M 0) by rw [kp_ML, kp_cycleNow, kp_phases])).trans (kpA_thr _ _)
  have cN : Model_cycleNow (ML (Model_set_cycleNow (Model_set_phases (Model_set_thrown M 0) ph) cy) f l s gg b) = I ((cyc v : Nat) : Int) := by rw [MLo_cycleNow, Mo_cycleNow_cycleNow]; exact h1
  have cp := cyc_pos hw
  have cl := cyc_le hw
  have eW := worstLaid_m (l := l) (f := f) hrB hn cp cl h3 rfl
  have eL := lateLaid_m (l := l) (f := f) hrB hn hw hl h3
  have eS := sightings_m hrL hn hs
  have eO := openAll_m hrL hn hd
  have eC := crossings_m (p := House_phases v) ⟨hrL, hn, hw, hw, phL⟩ cN
  unfold GW_size Mod_size
  rw [nmL_e, e, bind_s, I_int z1 z2]
  revert hrL phL kT kA cN eW eL eS eO eC
  generalize ML (Model_set_cycleNow (Model_set_phases (Model_set_thrown M 0) ph) cy) f l s gg b = N
  intro hrL phL kT kA cN eW eL eS eO eC
  by_cases c2 : 0 ≤ z ∧ z ≤ 9
  · rw [if_neg (show ¬ (z < 0 ∨ 9 < z) by omega), if_neg (show ¬ (z < 0 ∨ 9 < z) by omega)]
    left
    obtain rfl | rfl | rfl | rfl | rfl | rfl | rfl | rfl | rfl | rfl : z = 0 ∨ z = 1 ∨ z = 2 ∨ z = 3 ∨ z = 4 ∨ z = 5 ∨ z = 6 ∨ z = 7 ∨ z = 8 ∨ z = 9 := by omega
    · exact ⟨House_rooms v, s0, N, rfl, Or.inl rfl, congrArg some (Prod.ext hrL.1 rfl), kT, kA⟩
    · exact ⟨House_doors v, s0, N, rfl, Or.inl rfl, congrArg some (Prod.ext hrL.2.1 rfl), kT, kA⟩
    · exact ⟨House_guards v, s0, N, rfl, Or.inl rfl, congrArg some (Prod.ext hrL.2.2.1 rfl), kT, kA⟩
    · refine ⟨I ((cyc v : Nat) : Int), s0, N, ?_, Or.inl rfl, congrArg some (Prod.ext cN rfl), kT, kA⟩
      show (Option.bind (House_cycleLength v) fun p84 => some (Except.ok (p84, s0))) = _
      rw [cycleLength_s hn hw, bind_s]
    · exact ⟨House_minute v, s0, N, rfl, Or.inl rfl, congrArg some (Prod.ext hrL.2.2.2.1 rfl), kT, kA⟩
    · obtain ⟨s1, m1, m2, m3⟩ := measured_s hn hw hms g
      refine ⟨I (worst v), s1, N, ?_, Or.inr ⟨m2, m3⟩, ?_, kT, kA⟩
      · show (Option.bind (GW_measured g v s0) fun p97 => some (Except.ok (Sight_worst p97, p97))) = _
        rw [m1, bind_s, m2.2]
      · show (Option.bind (Mod_worstLaid N) fun p84 => some (p84, N)) = _
        rw [eW, bind_s]
    · obtain ⟨s1, m1, m2, m3⟩ := measured_s hn hw hms g
      refine ⟨I ((cnt (late v) (hR v) : Nat) : Int), s1, N, ?_, Or.inr ⟨m2, m3⟩, ?_, kT, kA⟩
      · show (Option.bind (GW_measured g v s0) fun p105 => Option.bind (Sight_countLate p105 v) fun p112 => some (Except.ok (p112, p105))) = _
        rw [m1, bind_s, countLate_s hn hw hl m2, bind_s]
      · show (Option.bind (Mod_lateLaid N) fun p84 => some (p84, N)) = _
        rw [eL, bind_s]
    · refine ⟨I (cross v), s0, N, ?_, Or.inl rfl, ?_, kT, kA⟩
      · show (Option.bind (House_countCrossings v) fun p84 => some (Except.ok (p84, s0))) = _
        rw [crossings_s hn hw, bind_s]
      · show (Option.bind (Mod_crossingsLaid N) fun p84 => some (p84, N)) = _
        rw [eC, bind_s]
        rfl
    · refine ⟨I ((cnt (opn v) (hD v) : Nat) : Int), s0, N, ?_, Or.inl rfl, ?_, kT, kA⟩
      · show (Option.bind (House_countOpenDoors v) fun p84 => some (Except.ok (p84, s0))) = _
        rw [openAll_s hn, bind_s]
      · show (Option.bind (Mod_openAt (-1) N) fun p84 => some (p84, N)) = _
        rw [eO, bind_s]
    · refine ⟨I (sumS v), s0, N, ?_, Or.inl rfl, ?_, kT, kA⟩
      · show (Option.bind (House_countSightings v) fun p84 => some (Except.ok (p84, s0))) = _
        rw [countSightings_s hn hs, bind_s]
      · show (Option.bind (Mod_sightings N) fun p84 => some (p84, N)) = _
        rw [eS, bind_s]
  · rw [if_pos (show z < 0 ∨ 9 < z by omega), if_pos (show z < 0 ∨ 9 < z by omega)]
    unfold Mod_raise
    rw [nmL_e, bind_s]
    exact Or.inr ⟨_, _, rfl, rfl, Mo_thrown_thrown _ _, (kpA_thr _ _).trans kA⟩
theorem case_358 (h : Inv n v0 v1 v3 v4 v5 v6 v8 v12 v17) (hn : n ≤ 100000) (hc : c + 6 ≤ L) (hL : L ≤ 3072) : NX n c k23 (Law_358 L xs k23 (I (c : Int)) v0 v1 v2 v3 v4 v5 v6 v7 v8 v9 v10 v11 v12 v14 v15 v16 v17 v19) := by
  have h0 := h
  obtain ⟨Φ, Ψ, ls, b, len, a1, a2, a3, a4, a5, a6, a7, a8, a9, a10, a11, a12, a13⟩ := h
  unfold Law_358
  rw [gd_t (in1 hc hL)]
  unfold L_size
  rcases size_as a3.1 a4 (a12.ms a3 (by omega)) v0 (xs (Int32.toNatClampNeg (I (c : Int) + 1))) with ⟨a, s, M', e1, e5, e2, e3, e4⟩ | ⟨x, M', e1, e2, e3, e4⟩
  · rw [e1, bind_s]
    unfold exC
    dsimp only
    rw [gd_t (show inB (0 : Int32) 1 = true from rfl), nmL_e, bind_s, e2, bind_s]
    unfold Mod_thrown
    rw [bind_s]
    dsimp only
    rw [e3, if_pos rfl, if_pos rfl, gd_t (show inB (0 : Int32) 1 = true from rfl), if_pos (show lg_cmp (vp_updL v19 (Int32.toNatClampNeg 0) (Int32.toInt64 a) (Int32.toNatClampNeg 0)) (Int32.toInt64 a) = 0 by rw [updL_i]; exact lg_self _), nmL_e]
    exact ⟨v0, v1, v2, v3, v4, v5, s, v7, v8, v9, v10, v11, v12, v14, v15, v16, M', _, rfl, (h0.sight e5).keep e4⟩
  · rw [e1, bind_s]
    unfold exC
    dsimp only
    rw [bif_f, bind_s, e2, bind_s]
    unfold Mod_thrown
    rw [bind_s]
    dsimp only
    rw [e3, if_pos rfl, if_neg (show ¬ (1 : Int32) = 0 by decide), nmL_e]
    exact ⟨v0, v1, v2, v3, v4, v5, v6, v7, v8, v9, v10, v11, v12, v14, v15, v16, M', _, rfl, h0.keep e4⟩
end CASES8
