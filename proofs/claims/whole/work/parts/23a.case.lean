section CASES
abbrev K23 := Int32 → GWV → HouseV → HouseV → HistV → (Nat → HouseV) → HouseV → SightV → SightV → BestV → HouseV → SightV → IntrV → ToksV → QReadV → (Nat → Int32) → (Nat → Int32) → ModelV → (Nat → Int64) → Option Unit
/-- a call is done, and the two go on alike -/
def NX (n c : Nat) (k23 : K23) (r : Option Unit) : Prop := ∃ v0 v1 v2 v3 v4 v5 v6 v7 v8 v9 v10 v11 v12 v14 v15 v16 v17 v19, r = k23 (I (c : Int) + 6) v0 v1 v2 v3 v4 v5 v6 v7 v8 v9 v10 v11 v12 v14 v15 v16 v17 v19 ∧ Inv (n + 1) v0 v1 v3 v4 v5 v6 v8 v12 v17
variable {n c L : Nat} {k23 : K23} {xs : Nat → Int32} {v0 : GWV} {v1 v2 v5 v9 : HouseV} {v3 : HistV} {v4 : Nat → HouseV} {v6 v7 v10 : SightV} {v8 : BestV} {v11 : IntrV} {v12 : ToksV} {v14 : QReadV} {v15 v16 : Nat → Int32} {v17 M' : ModelV} {v19 : Nat → Int64}
theorem in1 (h : c + 6 ≤ L) (hL : L ≤ 3072) : inB (I (c : Int) + 1) L = true := by
  rw [I1, I_add, inB_I (by omega) (by omega), decide_eq_true (by omega)]
theorem in2 (h : c + 6 ≤ L) (hL : L ≤ 3072) : inB (I (c : Int) + 2) L = true := by
  rw [I2, I_add, inB_I (by omega) (by omega), decide_eq_true (by omega)]
theorem in3 (h : c + 6 ≤ L) (hL : L ≤ 3072) : inB (I (c : Int) + 3) L = true := by
  rw [I3, I_add, inB_I (by omega) (by omega), decide_eq_true (by omega)]
theorem in4 (h : c + 6 ≤ L) (hL : L ≤ 3072) : inB (I (c : Int) + 4) L = true := by
  rw [I4, I_add, inB_I (by omega) (by omega), decide_eq_true (by omega)]
theorem in5 (h : c + 6 ≤ L) (hL : L ≤ 3072) : inB (I (c : Int) + 5) L = true := by
  rw [I5, I_add, inB_I (by omega) (by omega), decide_eq_true (by omega)]
/-- a call that changes nothing that lasts -/
theorem Inv.keep (h : Inv n v0 v1 v3 v4 v5 v6 v8 v12 v17) (hk : kpA M' = kpA v17) : Inv (n + 1) v0 v1 v3 v4 v5 v6 v8 v12 M' := by
  obtain ⟨Φ, Ψ, ls, b, len, a1, a2, a3, a4, a5, a6, a7, a8, a9, a10, a11, a12, a13⟩ := h
  have e1 : Model_now M' = Model_now v17 := congrArg (fun q => q.1) hk
  have e2 : Model_snapshot M' = Model_snapshot v17 := congrArg (fun q => q.2.1) hk
  have e3 : Model_history M' = Model_history v17 := congrArg (fun q => q.2.2.1) hk
  have e4 : Model_undoCount M' = Model_undoCount v17 := congrArg (fun q => q.2.2.2.1) hk
  have e5 : Model_hasSnapshot M' = Model_hasSnapshot v17 := congrArg (fun q => q.2.2.2.2.1) hk
  have e6 : Model_formatted M' = Model_formatted v17 := congrArg (fun q => q.2.2.2.2.2.1) hk
  have e7 : Model_formattedLength M' = Model_formattedLength v17 := congrArg (fun q => q.2.2.2.2.2.2.1) hk
  have e8 : Model_buffer M' = Model_buffer v17 := congrArg (fun q => q.2.2.2.2.2.2.2.1) hk
  have e9 : Model_bufferLength M' = Model_bufferLength v17 := congrArg (fun q => q.2.2.2.2.2.2.2.2.1) hk
  have e10 : Model_errorPosition M' = Model_errorPosition v17 := congrArg (fun q => q.2.2.2.2.2.2.2.2.2) hk
  refine ⟨Φ, Ψ, ls, b, len, a1, by omega, a3, by rw [e1]; exact a4, by rw [e2, e3, e4, e5]; exact a5, ?_, by rw [e10]; exact a7, a8, a9, e7.trans a10, by rw [e6]; exact a11, a12, a13⟩
  unfold BUF
  rw [e8, e9]
  exact a6
theorem kpA_thr (M : ModelV) (x : Int32) : kpA (Model_set_thrown M x) = kpA M := by
  unfold kpA
  rw [Mo_now_thrown, Mo_snapshot_thrown, Mo_history_thrown, Mo_undoCount_thrown, Mo_hasSnapshot_thrown, Mo_formatted_thrown, Mo_formattedLength_thrown, Mo_buffer_thrown, Mo_bufferLength_thrown, Mo_errorPosition_thrown]
/-- feeding -/
theorem case_216 (h : Inv n v0 v1 v3 v4 v5 v6 v8 v12 v17) (hc : c + 6 ≤ L) (hL : L ≤ 3072) : NX n c k23 (Law_216 L xs k23 (I (c : Int)) v0 v1 v2 v3 v4 v5 v6 v7 v8 v9 v10 v11 v12 v14 v15 v16 v17 v19) := by
  obtain ⟨Φ, Ψ, ls, b, len, a1, a2, a3, a4, a5, a6, a7, a8, a9, a10, a11, a12, a13⟩ := h
  have buf : BUF v12 (Model_set_thrown v17 0) b := by
    unfold BUF
    rw [Mo_bufferLength_thrown, Mo_buffer_thrown]
    exact a6
  unfold Law_216
  rw [gd_t (in1 hc hL), gd_t (in2 hc hL), gd_t (in3 hc hL), gd_t (in4 hc hL), gd_t (in5 hc hL)]
  obtain ⟨r, t', M', b', f1, f2, f3, f4⟩ := feed_ss buf v0 (xs (Int32.toNatClampNeg (I (c : Int) + 1))) (xs (Int32.toNatClampNeg (I (c : Int) + 2))) (xs (Int32.toNatClampNeg (I (c : Int) + 3))) (xs (Int32.toNatClampNeg (I (c : Int) + 4))) (xs (Int32.toNatClampNeg (I (c : Int) + 5)))
  unfold Mod_feed
  rw [f1, bind_s, nmL_e, f2, bind_s]
  dsimp only
  rw [if_pos rfl, nmL_e]
  refine ⟨v0, v1, v2, v3, v4, v5, v6, v7, v8, v9, v10, v11, t', v14, v15, v16, M', v19, rfl, Φ, Ψ, ls, b', len, a1, by omega, a3, ?_, ?_, f3, ?_, a8, a9, ?_, ?_, a12, a13⟩
  · rw [kpF.now f4, Mo_now_thrown]; exact a4
  · rw [kpF.history f4, kpF.undoCount f4, kpF.snapshot f4, kpF.hasSnapshot f4, Mo_history_thrown, Mo_undoCount_thrown, Mo_snapshot_thrown, Mo_hasSnapshot_thrown]; exact a5
  · rw [kpF.errorPosition f4, Mo_errorPosition_thrown]; exact a7
  · rw [kpF.formattedLength f4, Mo_formattedLength_thrown]; exact a10
  · rw [kpF.formatted f4, Mo_formatted_thrown]; exact a11
/-- where the error was -/
theorem case_345 (h : Inv n v0 v1 v3 v4 v5 v6 v8 v12 v17) : NX n c k23 (Law_345 L xs k23 (I (c : Int)) v0 v1 v2 v3 v4 v5 v6 v7 v8 v9 v10 v11 v12 v14 v15 v16 v17 v19) := by
  have hp : GW_lastErrorPosition v0 = Model_errorPosition v17 := by
    obtain ⟨Φ, Ψ, ls, b, len, a1, a2, a3, a4, a5, a6, a7, -⟩ := h
    exact a7
  unfold Law_345 GW_errorPosition Mod_errorPosition
  rw [bind_s, nmL_e, bind_s, Mo_errorPosition_thrown]
  dsimp only
  rw [if_pos hp, nmL_e]
  exact ⟨v0, v1, v2, v3, v4, v5, v6, v7, v8, v9, v10, v11, v12, v14, v15, v16, _, v19, rfl, h.keep (kpA_thr _ _)⟩
end CASES
