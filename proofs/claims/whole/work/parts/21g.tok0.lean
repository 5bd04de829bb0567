section TOK0
/-- what a scan keeps -/
def kpT (m : ModelV) : Int32 × (Nat → Int32) × (Nat → Int32) × (Nat → Int32) × Int32 × Bool × (Nat → Int32) × Int32 × (Nat → Int32) × Int32 × Int32 × (Nat → Int32) × Int32 × Int32 × Int32 × Int32 × (Nat → Int32) × Int32 := (Model_thrown m, Model_now m, Model_snapshot m, Model_history m, Model_undoCount m, Model_hasSnapshot m, Model_formatted m, Model_formattedLength m, Model_buffer m, Model_bufferLength m, Model_errorPosition m, Model_draft m, Model_limit m, Model_error m, Model_errorAt m, Model_nested m, Model_codes m, Model_codeCount m)
theorem kpT.thrown {m m' : ModelV} (h : kpT m' = kpT m) : Model_thrown m' = Model_thrown m := congrArg (fun q => q.1) h
theorem kpT.now {m m' : ModelV} (h : kpT m' = kpT m) : Model_now m' = Model_now m := congrArg (fun q => q.2.1) h
theorem kpT.snapshot {m m' : ModelV} (h : kpT m' = kpT m) : Model_snapshot m' = Model_snapshot m := congrArg (fun q => q.2.2.1) h
theorem kpT.history {m m' : ModelV} (h : kpT m' = kpT m) : Model_history m' = Model_history m := congrArg (fun q => q.2.2.2.1) h
theorem kpT.undoCount {m m' : ModelV} (h : kpT m' = kpT m) : Model_undoCount m' = Model_undoCount m := congrArg (fun q => q.2.2.2.2.1) h
theorem kpT.hasSnapshot {m m' : ModelV} (h : kpT m' = kpT m) : Model_hasSnapshot m' = Model_hasSnapshot m := congrArg (fun q => q.2.2.2.2.2.1) h
theorem kpT.formatted {m m' : ModelV} (h : kpT m' = kpT m) : Model_formatted m' = Model_formatted m := congrArg (fun q => q.2.2.2.2.2.2.1) h
theorem kpT.formattedLength {m m' : ModelV} (h : kpT m' = kpT m) : Model_formattedLength m' = Model_formattedLength m := congrArg (fun q => q.2.2.2.2.2.2.2.1) h
theorem kpT.buffer {m m' : ModelV} (h : kpT m' = kpT m) : Model_buffer m' = Model_buffer m := congrArg (fun q => q.2.2.2.2.2.2.2.2.1) h
theorem kpT.bufferLength {m m' : ModelV} (h : kpT m' = kpT m) : Model_bufferLength m' = Model_bufferLength m := congrArg (fun q => q.2.2.2.2.2.2.2.2.2.1) h
theorem kpT.errorPosition {m m' : ModelV} (h : kpT m' = kpT m) : Model_errorPosition m' = Model_errorPosition m := congrArg (fun q => q.2.2.2.2.2.2.2.2.2.2.1) h
theorem kpT.draft {m m' : ModelV} (h : kpT m' = kpT m) : Model_draft m' = Model_draft m := congrArg (fun q => q.2.2.2.2.2.2.2.2.2.2.2.1) h
theorem kpT.limit {m m' : ModelV} (h : kpT m' = kpT m) : Model_limit m' = Model_limit m := congrArg (fun q => q.2.2.2.2.2.2.2.2.2.2.2.2.1) h
theorem kpT.error {m m' : ModelV} (h : kpT m' = kpT m) : Model_error m' = Model_error m := congrArg (fun q => q.2.2.2.2.2.2.2.2.2.2.2.2.2.1) h
theorem kpT.errorAt {m m' : ModelV} (h : kpT m' = kpT m) : Model_errorAt m' = Model_errorAt m := congrArg (fun q => q.2.2.2.2.2.2.2.2.2.2.2.2.2.2.1) h
theorem kpT.nested {m m' : ModelV} (h : kpT m' = kpT m) : Model_nested m' = Model_nested m := congrArg (fun q => q.2.2.2.2.2.2.2.2.2.2.2.2.2.2.2.1) h
theorem kpT.codes {m m' : ModelV} (h : kpT m' = kpT m) : Model_codes m' = Model_codes m := congrArg (fun q => q.2.2.2.2.2.2.2.2.2.2.2.2.2.2.2.2.1) h
theorem kpT.codeCount {m m' : ModelV} (h : kpT m' = kpT m) : Model_codeCount m' = Model_codeCount m := congrArg (fun q => q.2.2.2.2.2.2.2.2.2.2.2.2.2.2.2.2.2) h
theorem kpT_next (m : ModelV) (x : Int32) : kpT (Model_set_next m x) = kpT m := by
  unfold kpT
  rw [Mo_thrown_next, Mo_now_next, Mo_snapshot_next, Mo_history_next, Mo_undoCount_next, Mo_hasSnapshot_next, Mo_formatted_next, Mo_formattedLength_next, Mo_buffer_next, Mo_bufferLength_next, Mo_errorPosition_next, Mo_draft_next, Mo_limit_next, Mo_error_next, Mo_errorAt_next, Mo_nested_next, Mo_codes_next, Mo_codeCount_next]
theorem kpT_beginsAt (m : ModelV) (x : Int32) : kpT (Model_set_beginsAt m x) = kpT m := by
  unfold kpT
  rw [Mo_thrown_beginsAt, Mo_now_beginsAt, Mo_snapshot_beginsAt, Mo_history_beginsAt, Mo_undoCount_beginsAt, Mo_hasSnapshot_beginsAt, Mo_formatted_beginsAt, Mo_formattedLength_beginsAt, Mo_buffer_beginsAt, Mo_bufferLength_beginsAt, Mo_errorPosition_beginsAt, Mo_draft_beginsAt, Mo_limit_beginsAt, Mo_error_beginsAt, Mo_errorAt_beginsAt, Mo_nested_beginsAt, Mo_codes_beginsAt, Mo_codeCount_beginsAt]
theorem kpT_token (m : ModelV) (x : Int32) : kpT (Model_set_token m x) = kpT m := by
  unfold kpT
  rw [Mo_thrown_token, Mo_now_token, Mo_snapshot_token, Mo_history_token, Mo_undoCount_token, Mo_hasSnapshot_token, Mo_formatted_token, Mo_formattedLength_token, Mo_buffer_token, Mo_bufferLength_token, Mo_errorPosition_token, Mo_draft_token, Mo_limit_token, Mo_error_token, Mo_errorAt_token, Mo_nested_token, Mo_codes_token, Mo_codeCount_token]
/-- what the present token and the text are -/
def kpV (m : ModelV) : Int32 × (Nat → Int32) × Int32 × Int32 × Int32 := (Model_limit m, Model_buffer m, Model_beginsAt m, Model_next m, Model_token m)
theorem kpV.limit {m m' : ModelV} (h : kpV m' = kpV m) : Model_limit m' = Model_limit m := congrArg (fun q => q.1) h
theorem kpV.buffer {m m' : ModelV} (h : kpV m' = kpV m) : Model_buffer m' = Model_buffer m := congrArg (fun q => q.2.1) h
theorem kpV.beginsAt {m m' : ModelV} (h : kpV m' = kpV m) : Model_beginsAt m' = Model_beginsAt m := congrArg (fun q => q.2.2.1) h
theorem kpV.next {m m' : ModelV} (h : kpV m' = kpV m) : Model_next m' = Model_next m := congrArg (fun q => q.2.2.2.1) h
theorem kpV.token {m m' : ModelV} (h : kpV m' = kpV m) : Model_token m' = Model_token m := congrArg (fun q => q.2.2.2.2) h
theorem kpV_draft (m : ModelV) (x : Nat → Int32) : kpV (Model_set_draft m x) = kpV m := by
  unfold kpV
  rw [Mo_limit_draft, Mo_buffer_draft, Mo_beginsAt_draft, Mo_next_draft, Mo_token_draft]
theorem kpV_error (m : ModelV) (x : Int32) : kpV (Model_set_error m x) = kpV m := by
  unfold kpV
  rw [Mo_limit_error, Mo_buffer_error, Mo_beginsAt_error, Mo_next_error, Mo_token_error]
theorem kpV_errorAt (m : ModelV) (x : Int32) : kpV (Model_set_errorAt m x) = kpV m := by
  unfold kpV
  rw [Mo_limit_errorAt, Mo_buffer_errorAt, Mo_beginsAt_errorAt, Mo_next_errorAt, Mo_token_errorAt]
theorem kpV_nested (m : ModelV) (x : Int32) : kpV (Model_set_nested m x) = kpV m := by
  unfold kpV
  rw [Mo_limit_nested, Mo_buffer_nested, Mo_beginsAt_nested, Mo_next_nested, Mo_token_nested]
theorem kpV_codes (m : ModelV) (x : Nat → Int32) : kpV (Model_set_codes m x) = kpV m := by
  unfold kpV
  rw [Mo_limit_codes, Mo_buffer_codes, Mo_beginsAt_codes, Mo_next_codes, Mo_token_codes]
theorem kpV_codeCount (m : ModelV) (x : Int32) : kpV (Model_set_codeCount m x) = kpV m := by
  unfold kpV
  rw [Mo_limit_codeCount, Mo_buffer_codeCount, Mo_beginsAt_codeCount, Mo_next_codeCount, Mo_token_codeCount]
theorem kpV_thrown (m : ModelV) (x : Int32) : kpV (Model_set_thrown m x) = kpV m := by
  unfold kpV
  rw [Mo_limit_thrown, Mo_buffer_thrown, Mo_beginsAt_thrown, Mo_next_thrown, Mo_token_thrown]
end TOK0
