section CASES3
variable {n c L : Nat} {k23 : K23} {xs : Nat → Int32} {v0 : GWV} {v1 v2 v5 v9 : HouseV} {v3 : HistV} {v4 : Nat → HouseV} {v6 v7 v10 : SightV} {v8 : BestV} {v11 : IntrV} {v12 : ToksV} {v14 : QReadV} {v15 v16 : Nat → Int32} {v17 M' : ModelV} {v19 : Nat → Int64}
theorem laid_f {M : ModelV} {v : HouseV} (hr : RelM (Model_now M) v) (hv : HOK v) : ∃ N, Mod_layNow M = some N ∧ RelM (Model_now N) v ∧ PhM N v (hF v) ∧ (∀ r, r < hR v → Mod_isLate (I (r : Int)) N = some (late v r)) ∧ kp N = kp M := by
  obtain ⟨hn, hd, hj, hl, hw, hs⟩ := hv
  obtain ⟨ph, c, f, l, s, g, b, e, h1, h2, h3⟩ := layNow_m hr hn hw
  have hr2 : RelM (Model_now (Model_set_cycleNow (Model_set_phases M ph) c)) v := by rw [Mo_now_cycleNow, Mo_now_phases]; exact hr
  refine ⟨_, e, rel_ML hr2, ph_ML (fun g hg => ?_), fun r hr' => isLate_m hr2 hn hw hl h3 hr', ?_⟩
  · rw [Mo_phases_cycleNow]; exact h2 g hg
  · rw [kp_ML, kp_cycleNow, kp_phases]
/-- the present minute as text -/
theorem case_2085 (h : Inv n v0 v1 v3 v4 v5 v6 v8 v12 v17) (hn : n ≤ 100000) : NX n c k23 (Law_2085 L xs k23 (I (c : Int)) v0 v1 v2 v3 v4 v5 v6 v7 v8 v9 v10 v11 v12 v14 v15 v16 v17 v19) := by
  obtain ⟨Φ, Ψ, ls, b, len, a1, a2, a3, a4, a5, a6, a7, a8, a9, a10, a11, a12, a13⟩ := h
  have hv := a3.1
  have hR12 : hR v1 ≤ 12 := hv.1.2.2.1
  obtain ⟨N, e1, e2, e3, e4, e5⟩ := laid_f (M := Model_set_thrown v17 0) (v := v1) (by rw [Mo_now_thrown]; exact a4) hv
  have k5 : kpA N = kpA v17 := (congrArg (fun q => q.2) e5).trans (kpA_thr _ _)
  unfold Law_2085 GW_format Mod_format
  rw [nmL_e, nmL_e, e1, bind_s, nmL_e]
  have hX : ∃ X, X = Model_set_formattedLength N 0 ∧ kpG X = kpG N ∧ Model_formattedLength X = I ((0 : Nat) : Int) := by
    refine ⟨_, rfl, ?_, Mo_formattedLength_formattedLength _ _⟩
    unfold kpG
    rw [Mo_thrown_formattedLength, Mo_now_formattedLength, Mo_snapshot_formattedLength, Mo_history_formattedLength, Mo_undoCount_formattedLength, Mo_hasSnapshot_formattedLength, Mo_buffer_formattedLength, Mo_bufferLength_formattedLength, Mo_errorPosition_formattedLength, Mo_phases_formattedLength, Mo_gap_formattedLength]
  obtain ⟨X, x1, x2, x3⟩ := hX
  rw [← x1]
  have y1 : Model_now X = Model_now N := congrArg (fun q => q.2.1) x2
  have y2 : Model_phases X = Model_phases N := congrArg (fun q => q.2.2.2.2.2.2.2.2.2.1) x2
  have y3 : Model_gap X = Model_gap N := congrArg (fun q => q.2.2.2.2.2.2.2.2.2.2) x2
  have hlt : ∀ r, r < hR v1 → Mod_isLate (I (r : Int)) X = some (late v1 r) := fun r hr => by
    rw [← e4 r hr]
    unfold Mod_isLate Mod_ofRoom
    rw [y1, y3]
  have hms : MS v6 v1 := a12.ms a3 (by omega)
  obtain ⟨F1, F1', s1, L1, Y1, f1, f2, f3, f4, f5, f6⟩ := rooms_f (X := X) (g0 := v0) (s0 := v6) hv (by rw [y1]; exact e2) (fun g hg => by rw [y2]; exact e3 g hg) hlt hms (hR v1) 0 FU FU 0 (GW_formatted v0) (Model_formatted X) v6 X (by omega) (by unfold FU; omega) (by unfold FU; omega) (Nat.zero_le _) ⟨rfl, rfl, x3⟩ (fun i hi => absurd hi (by omega)) (Or.inl rfl)
  have f1' : GW_format_7 v1 FU 0 (GW_set_formattedLength v0 0) v6 = some (I (L1 : Int), GF v0 F1 (I (L1 : Int)), s1) := f1
  have f2' : Mod_format_16 FU 0 X = some (I (L1 : Int), Y1) := f2
  rw [f1', bind_s, f2', bind_s]
  dsimp only
  rw [if_pos rfl, nmL_e]
  have kG : kpG Y1 = kpG N := f3.1.trans x2
  have z1 : Model_now Y1 = Model_now v17 := (congrArg (fun q => q.2.1) kG).trans (congrArg (fun q => q.1) k5)
  have z2 : Model_snapshot Y1 = Model_snapshot v17 := (congrArg (fun q => q.2.2.1) kG).trans (congrArg (fun q => q.2.1) k5)
  have z3 : Model_history Y1 = Model_history v17 := (congrArg (fun q => q.2.2.2.1) kG).trans (congrArg (fun q => q.2.2.1) k5)
  have z4 : Model_undoCount Y1 = Model_undoCount v17 := (congrArg (fun q => q.2.2.2.2.1) kG).trans (congrArg (fun q => q.2.2.2.1) k5)
  have z5 : Model_hasSnapshot Y1 = Model_hasSnapshot v17 := (congrArg (fun q => q.2.2.2.2.2.1) kG).trans (congrArg (fun q => q.2.2.2.2.1) k5)
  have z6 : Model_buffer Y1 = Model_buffer v17 := (congrArg (fun q => q.2.2.2.2.2.2.1) kG).trans (congrArg (fun q => q.2.2.2.2.2.2.2.1) k5)
  have z7 : Model_bufferLength Y1 = Model_bufferLength v17 := (congrArg (fun q => q.2.2.2.2.2.2.2.1) kG).trans (congrArg (fun q => q.2.2.2.2.2.2.2.2.1) k5)
  have z8 : Model_errorPosition Y1 = Model_errorPosition v17 := (congrArg (fun q => q.2.2.2.2.2.2.2.2.1) kG).trans (congrArg (fun q => q.2.2.2.2.2.2.2.2.2) k5)
  refine ⟨GF v0 F1 (I (L1 : Int)), v1, v2, v3, v4, v5, s1, v7, v8, v9, v10, v11, v12, v14, v15, v16, Y1, v19, rfl, Φ, Ψ, ls, b, L1, a1, by omega, a3, by rw [z1]; exact a4, by rw [z2, z3, z4, z5]; exact a5, ?_, by rw [z8]; exact a7, f4, rfl, f3.2.2, ?_, ?_, a13⟩
  · unfold BUF
    rw [z6, z7]; exact a6
  · rw [f3.2.1]; exact f5
  · rcases f6 with f6 | ⟨f6, f7⟩
    · rw [f6]; exact a12
    · exact SI2.of a3 f6 f7
/-- a byte of the text -/
theorem case_2098 (h : Inv n v0 v1 v3 v4 v5 v6 v8 v12 v17) (hc : c + 6 ≤ L) (hL : L ≤ 3072) : NX n c k23 (Law_2098 L xs k23 (I (c : Int)) v0 v1 v2 v3 v4 v5 v6 v7 v8 v9 v10 v11 v12 v14 v15 v16 v17 v19) := by
  have h0 := h
  obtain ⟨Φ, Ψ, ls, b, len, a1, a2, a3, a4, a5, a6, a7, a8, a9, a10, a11, a12, a13⟩ := h
  unfold Law_2098
  rw [gd_t (in1 hc hL)]
  generalize hx : xs (Int32.toNatClampNeg (I (c : Int) + 1)) = x
  obtain ⟨z, hz, hz1, hz2⟩ : ∃ z : Int, x = I z ∧ -2147483648 ≤ z ∧ z ≤ 2147483647 := ⟨x.toInt, (I_self x).symm, by have := x.le_toInt; omega, by have := x.toInt_lt; omega⟩
  have key : ∃ r, GW_formattedByte x v0 = some r ∧ Mod_formattedByte x v17 = some (r, Model_set_thrown v17 0) := by
    subst hz
    unfold GW_formattedByte Mod_formattedByte
    rw [a9, nmL_e, Mo_formattedLength_thrown, a10, I0, I1, I_sub, inRange_s hz1 hz2 (by omega) (by omega) (by omega) (by omega), bind_s]
    by_cases c1 : z < 0
    · rw [if_pos (I_lt_t c1 hz1 (by omega)), decide_eq_false (by omega), bif_f]
      exact ⟨_, rfl, rfl⟩
    · rw [if_neg (I_lt_f (by omega) (by omega) hz2)]
      by_cases c2 : (len : Int) ≤ z
      · rw [if_pos (I_le_t c2 (by omega) hz2), decide_eq_false (by omega), bif_f]
        exact ⟨_, rfl, rfl⟩
      · rw [if_neg (I_le_f (by omega) hz1 (by omega)), I64, if_pos (I_lt_t (by omega) hz1 (by omega)), gd_I (by omega) (by omega) (by omega), decide_eq_true (by omega), bif_t, gd_I (by omega) (by omega) (by omega), I_nat hz1 hz2, Mo_formatted_thrown, a11 z.toNat (by omega)]
        exact ⟨_, rfl, rfl⟩
  obtain ⟨r, r1, r2⟩ := key
  rw [r1, bind_s, r2, bind_s]
  dsimp only
  rw [if_pos rfl, nmL_e]
  exact ⟨v0, v1, v2, v3, v4, v5, v6, v7, v8, v9, v10, v11, v12, v14, v15, v16, _, v19, rfl, h0.keep (kpA_thr _ _)⟩
end CASES3
