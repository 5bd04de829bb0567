section CASES2
variable {n c L : Nat} {k23 : K23} {xs : Nat → Int32} {v0 : GWV} {v1 v2 v5 v9 : HouseV} {v3 : HistV} {v4 : Nat → HouseV} {v6 v7 v10 : SightV} {v8 : BestV} {v11 : IntrV} {v12 : ToksV} {v14 : QReadV} {v15 v16 : Nat → Int32} {v17 M' : ModelV} {v19 : Nat → Int64}
/-- how many operations can be taken back -/
theorem case_2123 (h : Inv n v0 v1 v3 v4 v5 v6 v8 v12 v17) : NX n c k23 (Law_2123 L xs k23 (I (c : Int)) v0 v1 v2 v3 v4 v5 v6 v7 v8 v9 v10 v11 v12 v14 v15 v16 v17 v19) := by
  have hp : Hist_count v3 = Model_undoCount v17 := by
    obtain ⟨Φ, Ψ, ls, b, len, a1, a2, a3, a4, ⟨m, k, b1, b2, b3, b4, b5, -⟩, -⟩ := h
    exact b3.trans b5.symm
  unfold Law_2123 GW_undoCount Mod_undoCount
  rw [bind_s, nmL_e, bind_s, Mo_undoCount_thrown]
  dsimp only
  rw [if_pos hp, nmL_e]
  exact ⟨v0, v1, v2, v3, v4, v5, v6, v7, v8, v9, v10, v11, v12, v14, v15, v16, _, v19, rfl, h.keep (kpA_thr _ _)⟩
/-- a snapshot -/
theorem case_2149 (h : Inv n v0 v1 v3 v4 v5 v6 v8 v12 v17) : NX n c k23 (Law_2149 L xs k23 (I (c : Int)) v0 v1 v2 v3 v4 v5 v6 v7 v8 v9 v10 v11 v12 v14 v15 v16 v17 v19) := by
  obtain ⟨Φ, Ψ, ls, b, len, a1, a2, a3, a4, a5, a6, a7, a8, a9, a10, a11, a12, a13⟩ := h
  have hr : HR (JJ Φ Ψ ls) v3 v4 v5 (Model_history v17) (Model_undoCount v17) (Model_snapshot (Model_set_thrown v17 0)) (Model_hasSnapshot v17) := by rw [Mo_snapshot_thrown]; exact a5
  obtain ⟨h', w, N, e1, e2, e3⟩ := keep_s (M := Model_set_thrown v17 0) (JJ.hc) (fun v hv => hv.1) hr a3 (by rw [Mo_now_thrown]; exact a4)
  unfold Law_2149 GW_saveSnapshot Mod_saveSnapshot
  rw [e1, bind_s, bind_s, nmL_e, e2, bind_s, nmL_e, nmL_e, bind_s, nmL_e]
  refine ⟨v0, v1, v2, h', v4, w, v6, v7, v8, v9, v10, v11, v12, v14, v15, v16, _, v19, rfl, Φ, Ψ, ls, b, len, a1, by omega, a3, ?_, ?_, ?_, ?_, a8, a9, ?_, ?_, a12, a13⟩
  · rw [Mo_now_hasSnapshot, Mo_now_snapshot, Mo_now_thrown]; exact a4
  · rw [Mo_history_hasSnapshot, Mo_history_snapshot, Mo_history_thrown, Mo_undoCount_hasSnapshot, Mo_undoCount_snapshot, Mo_undoCount_thrown, Mo_snapshot_hasSnapshot, Mo_snapshot_snapshot, Mo_hasSnapshot_hasSnapshot]; exact e3
  · unfold BUF
    rw [Mo_bufferLength_hasSnapshot, Mo_bufferLength_snapshot, Mo_bufferLength_thrown, Mo_buffer_hasSnapshot, Mo_buffer_snapshot, Mo_buffer_thrown]; exact a6
  · rw [Mo_errorPosition_hasSnapshot, Mo_errorPosition_snapshot, Mo_errorPosition_thrown]; exact a7
  · rw [Mo_formattedLength_hasSnapshot, Mo_formattedLength_snapshot, Mo_formattedLength_thrown]; exact a10
  · rw [Mo_formatted_hasSnapshot, Mo_formatted_snapshot, Mo_formatted_thrown]; exact a11
/-- a snapshot brought back -/
theorem case_2160 (h : Inv n v0 v1 v3 v4 v5 v6 v8 v12 v17) : NX n c k23 (Law_2160 L xs k23 (I (c : Int)) v0 v1 v2 v3 v4 v5 v6 v7 v8 v9 v10 v11 v12 v14 v15 v16 v17 v19) := by
  have h0 := h
  obtain ⟨Φ, Ψ, ls, b, len, a1, a2, a3, a4, a5, a6, a7, a8, a9, a10, a11, a12, a13⟩ := h
  have hr : HR (JJ Φ Ψ ls) v3 v4 v5 (Model_history v17) (Model_undoCount v17) (Model_snapshot (Model_set_thrown v17 0)) (Model_hasSnapshot (Model_set_thrown v17 0)) := by rw [Mo_snapshot_thrown, Mo_hasSnapshot_thrown]; exact a5
  unfold Law_2160 GW_restoreSnapshot Mod_restoreSnapshot
  rcases bring_s (M := Model_set_thrown v17 0) (v := v1) (JJ.hc) (fun v hv => hv.1) hr with ⟨e1, e2⟩ | ⟨e1, h', w, N, e2, e3, e4, e5, e6⟩
  · rw [e2, bind_s, bind_s, nmL_e, e1, bif_f, bind_s]
    dsimp only
    rw [if_pos rfl, nmL_e]
    exact ⟨v0, v1, v2, v3, v4, v5, v6, v7, v8, v9, v10, v11, v12, v14, v15, v16, _, v19, rfl, h0.keep (kpA_thr _ _)⟩
  · rw [e2, bind_s, bind_s, nmL_e, e1, bif_t, e3, bind_s, nmL_e, nmL_e, bind_s]
    dsimp only
    rw [if_pos rfl, nmL_e]
    refine ⟨v0, w, v2, h', v4, v5, v6, v7, v8, v9, v10, v11, v12, v14, v15, v16, _, v19, rfl, Φ, Ψ, ls, b, len, a1, by omega, e4, ?_, ?_, ?_, ?_, a8, a9, ?_, ?_, a12, a13⟩
    · rw [Mo_now_undoCount, Mo_now_now]; exact e5
    · rw [Mo_history_undoCount, Mo_history_now, Mo_history_thrown, Mo_undoCount_undoCount, Mo_snapshot_undoCount, Mo_snapshot_now, Mo_snapshot_thrown, Mo_hasSnapshot_undoCount, Mo_hasSnapshot_now, Mo_hasSnapshot_thrown]
      rw [Mo_snapshot_thrown, Mo_hasSnapshot_thrown] at e6
      exact e6
    · unfold BUF
      rw [Mo_bufferLength_undoCount, Mo_bufferLength_now, Mo_bufferLength_thrown, Mo_buffer_undoCount, Mo_buffer_now, Mo_buffer_thrown]; exact a6
    · rw [Mo_errorPosition_undoCount, Mo_errorPosition_now, Mo_errorPosition_thrown]; exact a7
    · rw [Mo_formattedLength_undoCount, Mo_formattedLength_now, Mo_formattedLength_thrown]; exact a10
    · rw [Mo_formatted_undoCount, Mo_formatted_now, Mo_formatted_thrown]; exact a11
/-- an operation taken back -/
theorem case_2136 (h : Inv n v0 v1 v3 v4 v5 v6 v8 v12 v17) : NX n c k23 (Law_2136 L xs k23 (I (c : Int)) v0 v1 v2 v3 v4 v5 v6 v7 v8 v9 v10 v11 v12 v14 v15 v16 v17 v19) := by
  have h0 := h
  obtain ⟨Φ, Ψ, ls, b, len, a1, a2, a3, a4, a5, a6, a7, a8, a9, a10, a11, a12, a13⟩ := h
  unfold Law_2136 GW_undo Mod_undo
  rcases takeBack_s (M := v17) (v := v1) (JJ.hc) (fun v hv => hv.1) a5 with ⟨e1, e2⟩ | ⟨e1, h', w, m, N, e2, e3, e4, e5, e6, e7, e8, e9⟩
  · rw [e2, bind_s]
    dsimp only
    rw [bif_f, bind_s, nmL_e, Mo_undoCount_thrown, if_pos e1, bind_s]
    dsimp only
    rw [if_pos rfl, nmL_e]
    exact ⟨v0, v1, v2, v3, v4, v5, v6, v7, v8, v9, v10, v11, v12, v14, v15, v16, _, v19, rfl, h0.keep (kpA_thr _ _)⟩
  · rw [e2, bind_s]
    dsimp only
    rw [bif_t, bind_s, nmL_e, Mo_undoCount_thrown, if_neg e1, nmL_e, e3, Mo_undoCount_undoCount, Mo_history_undoCount, Mo_history_thrown, Mo_now_undoCount, Mo_now_thrown, e6, bind_s, nmL_e, Mo_undoCount_now, Mo_undoCount_undoCount, bind_s]
    dsimp only
    rw [if_pos e5, nmL_e]
    refine ⟨v0, w, v2, h', v4, v5, v6, v7, v8, v9, v10, v11, v12, v14, v15, v16, _, v19, rfl, Φ, Ψ, ls, b, len, a1, by omega, e7, ?_, ?_, ?_, ?_, a8, a9, ?_, ?_, a12, a13⟩
    · rw [Mo_now_now]; exact e8
    · rw [Mo_history_now, Mo_history_undoCount, Mo_history_thrown, Mo_undoCount_now, Mo_undoCount_undoCount, Mo_snapshot_now, Mo_snapshot_undoCount, Mo_snapshot_thrown, Mo_hasSnapshot_now, Mo_hasSnapshot_undoCount, Mo_hasSnapshot_thrown]
      exact e9
    · unfold BUF
      rw [Mo_bufferLength_now, Mo_bufferLength_undoCount, Mo_bufferLength_thrown, Mo_buffer_now, Mo_buffer_undoCount, Mo_buffer_thrown]; exact a6
    · rw [Mo_errorPosition_now, Mo_errorPosition_undoCount, Mo_errorPosition_thrown]; exact a7
    · rw [Mo_formattedLength_now, Mo_formattedLength_undoCount, Mo_formattedLength_thrown]; exact a10
    · rw [Mo_formatted_now, Mo_formatted_undoCount, Mo_formatted_thrown]; exact a11
end CASES2
