section FEED0
/-- what feeding keeps -/
def kpF (m : ModelV) : Int32 × (Nat → Int32) × (Nat → Int32) × (Nat → Int32) × Int32 × Bool × (Nat → Int32) × Int32 × Int32 := (Model_thrown m, Model_now m, Model_snapshot m, Model_history m, Model_undoCount m, Model_hasSnapshot m, Model_formatted m, Model_formattedLength m, Model_errorPosition m)
theorem kpF.thrown {m m' : ModelV} (h : kpF m' = kpF m) : Model_thrown m' = Model_thrown m := congrArg (fun q => q.1) h
theorem kpF.now {m m' : ModelV} (h : kpF m' = kpF m) : Model_now m' = Model_now m := congrArg (fun q => q.2.1) h
theorem kpF.snapshot {m m' : ModelV} (h : kpF m' = kpF m) : Model_snapshot m' = Model_snapshot m := congrArg (fun q => q.2.2.1) h
theorem kpF.history {m m' : ModelV} (h : kpF m' = kpF m) : Model_history m' = Model_history m := congrArg (fun q => q.2.2.2.1) h
theorem kpF.undoCount {m m' : ModelV} (h : kpF m' = kpF m) : Model_undoCount m' = Model_undoCount m := congrArg (fun q => q.2.2.2.2.1) h
theorem kpF.hasSnapshot {m m' : ModelV} (h : kpF m' = kpF m) : Model_hasSnapshot m' = Model_hasSnapshot m := congrArg (fun q => q.2.2.2.2.2.1) h
theorem kpF.formatted {m m' : ModelV} (h : kpF m' = kpF m) : Model_formatted m' = Model_formatted m := congrArg (fun q => q.2.2.2.2.2.2.1) h
theorem kpF.formattedLength {m m' : ModelV} (h : kpF m' = kpF m) : Model_formattedLength m' = Model_formattedLength m := congrArg (fun q => q.2.2.2.2.2.2.2.1) h
theorem kpF.errorPosition {m m' : ModelV} (h : kpF m' = kpF m) : Model_errorPosition m' = Model_errorPosition m := congrArg (fun q => q.2.2.2.2.2.2.2.2) h
theorem kpF_buffer (m : ModelV) (x : Nat → Int32) : kpF (Model_set_buffer m x) = kpF m := by
  unfold kpF
  rw [Mo_thrown_buffer, Mo_now_buffer, Mo_snapshot_buffer, Mo_history_buffer, Mo_undoCount_buffer, Mo_hasSnapshot_buffer, Mo_formatted_buffer, Mo_formattedLength_buffer, Mo_errorPosition_buffer]
theorem kpF_bufferLength (m : ModelV) (x : Int32) : kpF (Model_set_bufferLength m x) = kpF m := by
  unfold kpF
  rw [Mo_thrown_bufferLength, Mo_now_bufferLength, Mo_snapshot_bufferLength, Mo_history_bufferLength, Mo_undoCount_bufferLength, Mo_hasSnapshot_bufferLength, Mo_formatted_bufferLength, Mo_formattedLength_bufferLength, Mo_errorPosition_bufferLength]
end FEED0
