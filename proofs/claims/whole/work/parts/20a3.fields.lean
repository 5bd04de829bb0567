section FIELDS2
/-- the model with its rows of the sightings -/
def ML (m : ModelV) (f l s g b : Nat → Int32) : ModelV := Model_set_gapBegin (Model_set_gap (Model_set_seenCount (Model_set_latestSeen (Model_set_firstSeen m f) l) s) g) b
section
variable (m : ModelV) (f l s g b : Nat → Int32)
theorem MLo_now : Model_now (ML m f l s g b) = Model_now m := by
  unfold ML
  rw [Mo_now_gapBegin, Mo_now_gap, Mo_now_seenCount, Mo_now_latestSeen, Mo_now_firstSeen]
theorem MLo_draft : Model_draft (ML m f l s g b) = Model_draft m := by
  unfold ML
  rw [Mo_draft_gapBegin, Mo_draft_gap, Mo_draft_seenCount, Mo_draft_latestSeen, Mo_draft_firstSeen]
theorem MLo_snapshot : Model_snapshot (ML m f l s g b) = Model_snapshot m := by
  unfold ML
  rw [Mo_snapshot_gapBegin, Mo_snapshot_gap, Mo_snapshot_seenCount, Mo_snapshot_latestSeen, Mo_snapshot_firstSeen]
theorem MLo_history : Model_history (ML m f l s g b) = Model_history m := by
  unfold ML
  rw [Mo_history_gapBegin, Mo_history_gap, Mo_history_seenCount, Mo_history_latestSeen, Mo_history_firstSeen]
theorem MLo_undoCount : Model_undoCount (ML m f l s g b) = Model_undoCount m := by
  unfold ML
  rw [Mo_undoCount_gapBegin, Mo_undoCount_gap, Mo_undoCount_seenCount, Mo_undoCount_latestSeen, Mo_undoCount_firstSeen]
theorem MLo_thrown : Model_thrown (ML m f l s g b) = Model_thrown m := by
  unfold ML
  rw [Mo_thrown_gapBegin, Mo_thrown_gap, Mo_thrown_seenCount, Mo_thrown_latestSeen, Mo_thrown_firstSeen]
theorem MLo_hasSnapshot : Model_hasSnapshot (ML m f l s g b) = Model_hasSnapshot m := by
  unfold ML
  rw [Mo_hasSnapshot_gapBegin, Mo_hasSnapshot_gap, Mo_hasSnapshot_seenCount, Mo_hasSnapshot_latestSeen, Mo_hasSnapshot_firstSeen]
theorem MLo_joined : Model_joined (ML m f l s g b) = Model_joined m := by
  unfold ML
  rw [Mo_joined_gapBegin, Mo_joined_gap, Mo_joined_seenCount, Mo_joined_latestSeen, Mo_joined_firstSeen]
theorem MLo_phases : Model_phases (ML m f l s g b) = Model_phases m := by
  unfold ML
  rw [Mo_phases_gapBegin, Mo_phases_gap, Mo_phases_seenCount, Mo_phases_latestSeen, Mo_phases_firstSeen]
theorem MLo_cycleNow : Model_cycleNow (ML m f l s g b) = Model_cycleNow m := by
  unfold ML
  rw [Mo_cycleNow_gapBegin, Mo_cycleNow_gap, Mo_cycleNow_seenCount, Mo_cycleNow_latestSeen, Mo_cycleNow_firstSeen]
theorem MLo_bestPhases : Model_bestPhases (ML m f l s g b) = Model_bestPhases m := by
  unfold ML
  rw [Mo_bestPhases_gapBegin, Mo_bestPhases_gap, Mo_bestPhases_seenCount, Mo_bestPhases_latestSeen, Mo_bestPhases_firstSeen]
theorem MLo_leastWorst : Model_leastWorst (ML m f l s g b) = Model_leastWorst m := by
  unfold ML
  rw [Mo_leastWorst_gapBegin, Mo_leastWorst_gap, Mo_leastWorst_seenCount, Mo_leastWorst_latestSeen, Mo_leastWorst_firstSeen]
theorem MLo_leastCrossings : Model_leastCrossings (ML m f l s g b) = Model_leastCrossings m := by
  unfold ML
  rw [Mo_leastCrossings_gapBegin, Mo_leastCrossings_gap, Mo_leastCrossings_seenCount, Mo_leastCrossings_latestSeen, Mo_leastCrossings_firstSeen]
theorem MLo_formatted : Model_formatted (ML m f l s g b) = Model_formatted m := by
  unfold ML
  rw [Mo_formatted_gapBegin, Mo_formatted_gap, Mo_formatted_seenCount, Mo_formatted_latestSeen, Mo_formatted_firstSeen]
theorem MLo_formattedLength : Model_formattedLength (ML m f l s g b) = Model_formattedLength m := by
  unfold ML
  rw [Mo_formattedLength_gapBegin, Mo_formattedLength_gap, Mo_formattedLength_seenCount, Mo_formattedLength_latestSeen, Mo_formattedLength_firstSeen]
theorem MLo_buffer : Model_buffer (ML m f l s g b) = Model_buffer m := by
  unfold ML
  rw [Mo_buffer_gapBegin, Mo_buffer_gap, Mo_buffer_seenCount, Mo_buffer_latestSeen, Mo_buffer_firstSeen]
theorem MLo_bufferLength : Model_bufferLength (ML m f l s g b) = Model_bufferLength m := by
  unfold ML
  rw [Mo_bufferLength_gapBegin, Mo_bufferLength_gap, Mo_bufferLength_seenCount, Mo_bufferLength_latestSeen, Mo_bufferLength_firstSeen]
theorem MLo_limit : Model_limit (ML m f l s g b) = Model_limit m := by
  unfold ML
  rw [Mo_limit_gapBegin, Mo_limit_gap, Mo_limit_seenCount, Mo_limit_latestSeen, Mo_limit_firstSeen]
theorem MLo_next : Model_next (ML m f l s g b) = Model_next m := by
  unfold ML
  rw [Mo_next_gapBegin, Mo_next_gap, Mo_next_seenCount, Mo_next_latestSeen, Mo_next_firstSeen]
theorem MLo_beginsAt : Model_beginsAt (ML m f l s g b) = Model_beginsAt m := by
  unfold ML
  rw [Mo_beginsAt_gapBegin, Mo_beginsAt_gap, Mo_beginsAt_seenCount, Mo_beginsAt_latestSeen, Mo_beginsAt_firstSeen]
theorem MLo_token : Model_token (ML m f l s g b) = Model_token m := by
  unfold ML
  rw [Mo_token_gapBegin, Mo_token_gap, Mo_token_seenCount, Mo_token_latestSeen, Mo_token_firstSeen]
theorem MLo_error : Model_error (ML m f l s g b) = Model_error m := by
  unfold ML
  rw [Mo_error_gapBegin, Mo_error_gap, Mo_error_seenCount, Mo_error_latestSeen, Mo_error_firstSeen]
theorem MLo_errorAt : Model_errorAt (ML m f l s g b) = Model_errorAt m := by
  unfold ML
  rw [Mo_errorAt_gapBegin, Mo_errorAt_gap, Mo_errorAt_seenCount, Mo_errorAt_latestSeen, Mo_errorAt_firstSeen]
theorem MLo_errorPosition : Model_errorPosition (ML m f l s g b) = Model_errorPosition m := by
  unfold ML
  rw [Mo_errorPosition_gapBegin, Mo_errorPosition_gap, Mo_errorPosition_seenCount, Mo_errorPosition_latestSeen, Mo_errorPosition_firstSeen]
theorem MLo_nested : Model_nested (ML m f l s g b) = Model_nested m := by
  unfold ML
  rw [Mo_nested_gapBegin, Mo_nested_gap, Mo_nested_seenCount, Mo_nested_latestSeen, Mo_nested_firstSeen]
theorem MLo_codes : Model_codes (ML m f l s g b) = Model_codes m := by
  unfold ML
  rw [Mo_codes_gapBegin, Mo_codes_gap, Mo_codes_seenCount, Mo_codes_latestSeen, Mo_codes_firstSeen]
theorem MLo_stack : Model_stack (ML m f l s g b) = Model_stack m := by
  unfold ML
  rw [Mo_stack_gapBegin, Mo_stack_gap, Mo_stack_seenCount, Mo_stack_latestSeen, Mo_stack_firstSeen]
theorem MLo_codeCount : Model_codeCount (ML m f l s g b) = Model_codeCount m := by
  unfold ML
  rw [Mo_codeCount_gapBegin, Mo_codeCount_gap, Mo_codeCount_seenCount, Mo_codeCount_latestSeen, Mo_codeCount_firstSeen]
end
/-- what lasts of the model, and what it threw -/
def kpA (m : ModelV) : (Nat → Int32) × (Nat → Int32) × (Nat → Int32) × Int32 × Bool × (Nat → Int32) × Int32 × (Nat → Int32) × Int32 × Int32 := (Model_now m, Model_snapshot m, Model_history m, Model_undoCount m, Model_hasSnapshot m, Model_formatted m, Model_formattedLength m, Model_buffer m, Model_bufferLength m, Model_errorPosition m)
def kp (m : ModelV) : Int32 × ((Nat → Int32) × (Nat → Int32) × (Nat → Int32) × Int32 × Bool × (Nat → Int32) × Int32 × (Nat → Int32) × Int32 × Int32) := (Model_thrown m, kpA m)
theorem kp_now {m m' : ModelV} (h : kp m' = kp m) : Model_now m' = Model_now m := congrArg (fun q => q.2.1) h
section
variable (m : ModelV)
theorem kp_draft (x : Nat → Int32) : kp (Model_set_draft m x) = kp m := by
  unfold kp kpA
  rw [Mo_thrown_draft, Mo_now_draft, Mo_snapshot_draft, Mo_history_draft, Mo_undoCount_draft, Mo_hasSnapshot_draft, Mo_formatted_draft, Mo_formattedLength_draft, Mo_buffer_draft, Mo_bufferLength_draft, Mo_errorPosition_draft]
theorem kp_joined (x : Nat → Int32) : kp (Model_set_joined m x) = kp m := by
  unfold kp kpA
  rw [Mo_thrown_joined, Mo_now_joined, Mo_snapshot_joined, Mo_history_joined, Mo_undoCount_joined, Mo_hasSnapshot_joined, Mo_formatted_joined, Mo_formattedLength_joined, Mo_buffer_joined, Mo_bufferLength_joined, Mo_errorPosition_joined]
theorem kp_phases (x : Nat → Int32) : kp (Model_set_phases m x) = kp m := by
  unfold kp kpA
  rw [Mo_thrown_phases, Mo_now_phases, Mo_snapshot_phases, Mo_history_phases, Mo_undoCount_phases, Mo_hasSnapshot_phases, Mo_formatted_phases, Mo_formattedLength_phases, Mo_buffer_phases, Mo_bufferLength_phases, Mo_errorPosition_phases]
theorem kp_firstSeen (x : Nat → Int32) : kp (Model_set_firstSeen m x) = kp m := by
  unfold kp kpA
  rw [Mo_thrown_firstSeen, Mo_now_firstSeen, Mo_snapshot_firstSeen, Mo_history_firstSeen, Mo_undoCount_firstSeen, Mo_hasSnapshot_firstSeen, Mo_formatted_firstSeen, Mo_formattedLength_firstSeen, Mo_buffer_firstSeen, Mo_bufferLength_firstSeen, Mo_errorPosition_firstSeen]
theorem kp_latestSeen (x : Nat → Int32) : kp (Model_set_latestSeen m x) = kp m := by
  unfold kp kpA
  rw [Mo_thrown_latestSeen, Mo_now_latestSeen, Mo_snapshot_latestSeen, Mo_history_latestSeen, Mo_undoCount_latestSeen, Mo_hasSnapshot_latestSeen, Mo_formatted_latestSeen, Mo_formattedLength_latestSeen, Mo_buffer_latestSeen, Mo_bufferLength_latestSeen, Mo_errorPosition_latestSeen]
theorem kp_seenCount (x : Nat → Int32) : kp (Model_set_seenCount m x) = kp m := by
  unfold kp kpA
  rw [Mo_thrown_seenCount, Mo_now_seenCount, Mo_snapshot_seenCount, Mo_history_seenCount, Mo_undoCount_seenCount, Mo_hasSnapshot_seenCount, Mo_formatted_seenCount, Mo_formattedLength_seenCount, Mo_buffer_seenCount, Mo_bufferLength_seenCount, Mo_errorPosition_seenCount]
theorem kp_gap (x : Nat → Int32) : kp (Model_set_gap m x) = kp m := by
  unfold kp kpA
  rw [Mo_thrown_gap, Mo_now_gap, Mo_snapshot_gap, Mo_history_gap, Mo_undoCount_gap, Mo_hasSnapshot_gap, Mo_formatted_gap, Mo_formattedLength_gap, Mo_buffer_gap, Mo_bufferLength_gap, Mo_errorPosition_gap]
theorem kp_gapBegin (x : Nat → Int32) : kp (Model_set_gapBegin m x) = kp m := by
  unfold kp kpA
  rw [Mo_thrown_gapBegin, Mo_now_gapBegin, Mo_snapshot_gapBegin, Mo_history_gapBegin, Mo_undoCount_gapBegin, Mo_hasSnapshot_gapBegin, Mo_formatted_gapBegin, Mo_formattedLength_gapBegin, Mo_buffer_gapBegin, Mo_bufferLength_gapBegin, Mo_errorPosition_gapBegin]
theorem kp_cycleNow (x : Int32) : kp (Model_set_cycleNow m x) = kp m := by
  unfold kp kpA
  rw [Mo_thrown_cycleNow, Mo_now_cycleNow, Mo_snapshot_cycleNow, Mo_history_cycleNow, Mo_undoCount_cycleNow, Mo_hasSnapshot_cycleNow, Mo_formatted_cycleNow, Mo_formattedLength_cycleNow, Mo_buffer_cycleNow, Mo_bufferLength_cycleNow, Mo_errorPosition_cycleNow]
theorem kp_bestPhases (x : Nat → Int32) : kp (Model_set_bestPhases m x) = kp m := by
  unfold kp kpA
  rw [Mo_thrown_bestPhases, Mo_now_bestPhases, Mo_snapshot_bestPhases, Mo_history_bestPhases, Mo_undoCount_bestPhases, Mo_hasSnapshot_bestPhases, Mo_formatted_bestPhases, Mo_formattedLength_bestPhases, Mo_buffer_bestPhases, Mo_bufferLength_bestPhases, Mo_errorPosition_bestPhases]
theorem kp_leastWorst (x : Int32) : kp (Model_set_leastWorst m x) = kp m := by
  unfold kp kpA
  rw [Mo_thrown_leastWorst, Mo_now_leastWorst, Mo_snapshot_leastWorst, Mo_history_leastWorst, Mo_undoCount_leastWorst, Mo_hasSnapshot_leastWorst, Mo_formatted_leastWorst, Mo_formattedLength_leastWorst, Mo_buffer_leastWorst, Mo_bufferLength_leastWorst, Mo_errorPosition_leastWorst]
theorem kp_leastCrossings (x : Int32) : kp (Model_set_leastCrossings m x) = kp m := by
  unfold kp kpA
  rw [Mo_thrown_leastCrossings, Mo_now_leastCrossings, Mo_snapshot_leastCrossings, Mo_history_leastCrossings, Mo_undoCount_leastCrossings, Mo_hasSnapshot_leastCrossings, Mo_formatted_leastCrossings, Mo_formattedLength_leastCrossings, Mo_buffer_leastCrossings, Mo_bufferLength_leastCrossings, Mo_errorPosition_leastCrossings]
theorem kp_limit (x : Int32) : kp (Model_set_limit m x) = kp m := by
  unfold kp kpA
  rw [Mo_thrown_limit, Mo_now_limit, Mo_snapshot_limit, Mo_history_limit, Mo_undoCount_limit, Mo_hasSnapshot_limit, Mo_formatted_limit, Mo_formattedLength_limit, Mo_buffer_limit, Mo_bufferLength_limit, Mo_errorPosition_limit]
theorem kp_next (x : Int32) : kp (Model_set_next m x) = kp m := by
  unfold kp kpA
  rw [Mo_thrown_next, Mo_now_next, Mo_snapshot_next, Mo_history_next, Mo_undoCount_next, Mo_hasSnapshot_next, Mo_formatted_next, Mo_formattedLength_next, Mo_buffer_next, Mo_bufferLength_next, Mo_errorPosition_next]
theorem kp_beginsAt (x : Int32) : kp (Model_set_beginsAt m x) = kp m := by
  unfold kp kpA
  rw [Mo_thrown_beginsAt, Mo_now_beginsAt, Mo_snapshot_beginsAt, Mo_history_beginsAt, Mo_undoCount_beginsAt, Mo_hasSnapshot_beginsAt, Mo_formatted_beginsAt, Mo_formattedLength_beginsAt, Mo_buffer_beginsAt, Mo_bufferLength_beginsAt, Mo_errorPosition_beginsAt]
theorem kp_token (x : Int32) : kp (Model_set_token m x) = kp m := by
  unfold kp kpA
  rw [Mo_thrown_token, Mo_now_token, Mo_snapshot_token, Mo_history_token, Mo_undoCount_token, Mo_hasSnapshot_token, Mo_formatted_token, Mo_formattedLength_token, Mo_buffer_token, Mo_bufferLength_token, Mo_errorPosition_token]
theorem kp_error (x : Int32) : kp (Model_set_error m x) = kp m := by
  unfold kp kpA
  rw [Mo_thrown_error, Mo_now_error, Mo_snapshot_error, Mo_history_error, Mo_undoCount_error, Mo_hasSnapshot_error, Mo_formatted_error, Mo_formattedLength_error, Mo_buffer_error, Mo_bufferLength_error, Mo_errorPosition_error]
theorem kp_errorAt (x : Int32) : kp (Model_set_errorAt m x) = kp m := by
  unfold kp kpA
  rw [Mo_thrown_errorAt, Mo_now_errorAt, Mo_snapshot_errorAt, Mo_history_errorAt, Mo_undoCount_errorAt, Mo_hasSnapshot_errorAt, Mo_formatted_errorAt, Mo_formattedLength_errorAt, Mo_buffer_errorAt, Mo_bufferLength_errorAt, Mo_errorPosition_errorAt]
theorem kp_nested (x : Int32) : kp (Model_set_nested m x) = kp m := by
  unfold kp kpA
  rw [Mo_thrown_nested, Mo_now_nested, Mo_snapshot_nested, Mo_history_nested, Mo_undoCount_nested, Mo_hasSnapshot_nested, Mo_formatted_nested, Mo_formattedLength_nested, Mo_buffer_nested, Mo_bufferLength_nested, Mo_errorPosition_nested]
theorem kp_codes (x : Nat → Int32) : kp (Model_set_codes m x) = kp m := by
  unfold kp kpA
  rw [Mo_thrown_codes, Mo_now_codes, Mo_snapshot_codes, Mo_history_codes, Mo_undoCount_codes, Mo_hasSnapshot_codes, Mo_formatted_codes, Mo_formattedLength_codes, Mo_buffer_codes, Mo_bufferLength_codes, Mo_errorPosition_codes]
theorem kp_stack (x : Nat → Int64) : kp (Model_set_stack m x) = kp m := by
  unfold kp kpA
  rw [Mo_thrown_stack, Mo_now_stack, Mo_snapshot_stack, Mo_history_stack, Mo_undoCount_stack, Mo_hasSnapshot_stack, Mo_formatted_stack, Mo_formattedLength_stack, Mo_buffer_stack, Mo_bufferLength_stack, Mo_errorPosition_stack]
theorem kp_codeCount (x : Int32) : kp (Model_set_codeCount m x) = kp m := by
  unfold kp kpA
  rw [Mo_thrown_codeCount, Mo_now_codeCount, Mo_snapshot_codeCount, Mo_history_codeCount, Mo_undoCount_codeCount, Mo_hasSnapshot_codeCount, Mo_formatted_codeCount, Mo_formattedLength_codeCount, Mo_buffer_codeCount, Mo_bufferLength_codeCount, Mo_errorPosition_codeCount]
theorem kpA_draft (x : Nat → Int32) : kpA (Model_set_draft m x) = kpA m := by
  unfold kpA
  rw [Mo_now_draft, Mo_snapshot_draft, Mo_history_draft, Mo_undoCount_draft, Mo_hasSnapshot_draft, Mo_formatted_draft, Mo_formattedLength_draft, Mo_buffer_draft, Mo_bufferLength_draft, Mo_errorPosition_draft]
theorem kpA_thrown (x : Int32) : kpA (Model_set_thrown m x) = kpA m := by
  unfold kpA
  rw [Mo_now_thrown, Mo_snapshot_thrown, Mo_history_thrown, Mo_undoCount_thrown, Mo_hasSnapshot_thrown, Mo_formatted_thrown, Mo_formattedLength_thrown, Mo_buffer_thrown, Mo_bufferLength_thrown, Mo_errorPosition_thrown]
theorem kpA_joined (x : Nat → Int32) : kpA (Model_set_joined m x) = kpA m := by
  unfold kpA
  rw [Mo_now_joined, Mo_snapshot_joined, Mo_history_joined, Mo_undoCount_joined, Mo_hasSnapshot_joined, Mo_formatted_joined, Mo_formattedLength_joined, Mo_buffer_joined, Mo_bufferLength_joined, Mo_errorPosition_joined]
theorem kpA_phases (x : Nat → Int32) : kpA (Model_set_phases m x) = kpA m := by
  unfold kpA
  rw [Mo_now_phases, Mo_snapshot_phases, Mo_history_phases, Mo_undoCount_phases, Mo_hasSnapshot_phases, Mo_formatted_phases, Mo_formattedLength_phases, Mo_buffer_phases, Mo_bufferLength_phases, Mo_errorPosition_phases]
theorem kpA_firstSeen (x : Nat → Int32) : kpA (Model_set_firstSeen m x) = kpA m := by
  unfold kpA
  rw [Mo_now_firstSeen, Mo_snapshot_firstSeen, Mo_history_firstSeen, Mo_undoCount_firstSeen, Mo_hasSnapshot_firstSeen, Mo_formatted_firstSeen, Mo_formattedLength_firstSeen, Mo_buffer_firstSeen, Mo_bufferLength_firstSeen, Mo_errorPosition_firstSeen]
theorem kpA_latestSeen (x : Nat → Int32) : kpA (Model_set_latestSeen m x) = kpA m := by
  unfold kpA
  rw [Mo_now_latestSeen, Mo_snapshot_latestSeen, Mo_history_latestSeen, Mo_undoCount_latestSeen, Mo_hasSnapshot_latestSeen, Mo_formatted_latestSeen, Mo_formattedLength_latestSeen, Mo_buffer_latestSeen, Mo_bufferLength_latestSeen, Mo_errorPosition_latestSeen]
theorem kpA_seenCount (x : Nat → Int32) : kpA (Model_set_seenCount m x) = kpA m := by
  unfold kpA
  rw [Mo_now_seenCount, Mo_snapshot_seenCount, Mo_history_seenCount, Mo_undoCount_seenCount, Mo_hasSnapshot_seenCount, Mo_formatted_seenCount, Mo_formattedLength_seenCount, Mo_buffer_seenCount, Mo_bufferLength_seenCount, Mo_errorPosition_seenCount]
theorem kpA_gap (x : Nat → Int32) : kpA (Model_set_gap m x) = kpA m := by
  unfold kpA
  rw [Mo_now_gap, Mo_snapshot_gap, Mo_history_gap, Mo_undoCount_gap, Mo_hasSnapshot_gap, Mo_formatted_gap, Mo_formattedLength_gap, Mo_buffer_gap, Mo_bufferLength_gap, Mo_errorPosition_gap]
theorem kpA_gapBegin (x : Nat → Int32) : kpA (Model_set_gapBegin m x) = kpA m := by
  unfold kpA
  rw [Mo_now_gapBegin, Mo_snapshot_gapBegin, Mo_history_gapBegin, Mo_undoCount_gapBegin, Mo_hasSnapshot_gapBegin, Mo_formatted_gapBegin, Mo_formattedLength_gapBegin, Mo_buffer_gapBegin, Mo_bufferLength_gapBegin, Mo_errorPosition_gapBegin]
theorem kpA_cycleNow (x : Int32) : kpA (Model_set_cycleNow m x) = kpA m := by
  unfold kpA
  rw [Mo_now_cycleNow, Mo_snapshot_cycleNow, Mo_history_cycleNow, Mo_undoCount_cycleNow, Mo_hasSnapshot_cycleNow, Mo_formatted_cycleNow, Mo_formattedLength_cycleNow, Mo_buffer_cycleNow, Mo_bufferLength_cycleNow, Mo_errorPosition_cycleNow]
theorem kpA_bestPhases (x : Nat → Int32) : kpA (Model_set_bestPhases m x) = kpA m := by
  unfold kpA
  rw [Mo_now_bestPhases, Mo_snapshot_bestPhases, Mo_history_bestPhases, Mo_undoCount_bestPhases, Mo_hasSnapshot_bestPhases, Mo_formatted_bestPhases, Mo_formattedLength_bestPhases, Mo_buffer_bestPhases, Mo_bufferLength_bestPhases, Mo_errorPosition_bestPhases]
theorem kpA_leastWorst (x : Int32) : kpA (Model_set_leastWorst m x) = kpA m := by
  unfold kpA
  rw [Mo_now_leastWorst, Mo_snapshot_leastWorst, Mo_history_leastWorst, Mo_undoCount_leastWorst, Mo_hasSnapshot_leastWorst, Mo_formatted_leastWorst, Mo_formattedLength_leastWorst, Mo_buffer_leastWorst, Mo_bufferLength_leastWorst, Mo_errorPosition_leastWorst]
theorem kpA_leastCrossings (x : Int32) : kpA (Model_set_leastCrossings m x) = kpA m := by
  unfold kpA
  rw [Mo_now_leastCrossings, Mo_snapshot_leastCrossings, Mo_history_leastCrossings, Mo_undoCount_leastCrossings, Mo_hasSnapshot_leastCrossings, Mo_formatted_leastCrossings, Mo_formattedLength_leastCrossings, Mo_buffer_leastCrossings, Mo_bufferLength_leastCrossings, Mo_errorPosition_leastCrossings]
theorem kpA_limit (x : Int32) : kpA (Model_set_limit m x) = kpA m := by
  unfold kpA
  rw [Mo_now_limit, Mo_snapshot_limit, Mo_history_limit, Mo_undoCount_limit, Mo_hasSnapshot_limit, Mo_formatted_limit, Mo_formattedLength_limit, Mo_buffer_limit, Mo_bufferLength_limit, Mo_errorPosition_limit]
theorem kpA_next (x : Int32) : kpA (Model_set_next m x) = kpA m := by
  unfold kpA
  rw [Mo_now_next, Mo_snapshot_next, Mo_history_next, Mo_undoCount_next, Mo_hasSnapshot_next, Mo_formatted_next, Mo_formattedLength_next, Mo_buffer_next, Mo_bufferLength_next, Mo_errorPosition_next]
theorem kpA_beginsAt (x : Int32) : kpA (Model_set_beginsAt m x) = kpA m := by
  unfold kpA
  rw [Mo_now_beginsAt, Mo_snapshot_beginsAt, Mo_history_beginsAt, Mo_undoCount_beginsAt, Mo_hasSnapshot_beginsAt, Mo_formatted_beginsAt, Mo_formattedLength_beginsAt, Mo_buffer_beginsAt, Mo_bufferLength_beginsAt, Mo_errorPosition_beginsAt]
theorem kpA_token (x : Int32) : kpA (Model_set_token m x) = kpA m := by
  unfold kpA
  rw [Mo_now_token, Mo_snapshot_token, Mo_history_token, Mo_undoCount_token, Mo_hasSnapshot_token, Mo_formatted_token, Mo_formattedLength_token, Mo_buffer_token, Mo_bufferLength_token, Mo_errorPosition_token]
theorem kpA_error (x : Int32) : kpA (Model_set_error m x) = kpA m := by
  unfold kpA
  rw [Mo_now_error, Mo_snapshot_error, Mo_history_error, Mo_undoCount_error, Mo_hasSnapshot_error, Mo_formatted_error, Mo_formattedLength_error, Mo_buffer_error, Mo_bufferLength_error, Mo_errorPosition_error]
theorem kpA_errorAt (x : Int32) : kpA (Model_set_errorAt m x) = kpA m := by
  unfold kpA
  rw [Mo_now_errorAt, Mo_snapshot_errorAt, Mo_history_errorAt, Mo_undoCount_errorAt, Mo_hasSnapshot_errorAt, Mo_formatted_errorAt, Mo_formattedLength_errorAt, Mo_buffer_errorAt, Mo_bufferLength_errorAt, Mo_errorPosition_errorAt]
theorem kpA_nested (x : Int32) : kpA (Model_set_nested m x) = kpA m := by
  unfold kpA
  rw [Mo_now_nested, Mo_snapshot_nested, Mo_history_nested, Mo_undoCount_nested, Mo_hasSnapshot_nested, Mo_formatted_nested, Mo_formattedLength_nested, Mo_buffer_nested, Mo_bufferLength_nested, Mo_errorPosition_nested]
theorem kpA_codes (x : Nat → Int32) : kpA (Model_set_codes m x) = kpA m := by
  unfold kpA
  rw [Mo_now_codes, Mo_snapshot_codes, Mo_history_codes, Mo_undoCount_codes, Mo_hasSnapshot_codes, Mo_formatted_codes, Mo_formattedLength_codes, Mo_buffer_codes, Mo_bufferLength_codes, Mo_errorPosition_codes]
theorem kpA_stack (x : Nat → Int64) : kpA (Model_set_stack m x) = kpA m := by
  unfold kpA
  rw [Mo_now_stack, Mo_snapshot_stack, Mo_history_stack, Mo_undoCount_stack, Mo_hasSnapshot_stack, Mo_formatted_stack, Mo_formattedLength_stack, Mo_buffer_stack, Mo_bufferLength_stack, Mo_errorPosition_stack]
theorem kpA_codeCount (x : Int32) : kpA (Model_set_codeCount m x) = kpA m := by
  unfold kpA
  rw [Mo_now_codeCount, Mo_snapshot_codeCount, Mo_history_codeCount, Mo_undoCount_codeCount, Mo_hasSnapshot_codeCount, Mo_formatted_codeCount, Mo_formattedLength_codeCount, Mo_buffer_codeCount, Mo_bufferLength_codeCount, Mo_errorPosition_codeCount]
end
theorem kp_ML (m : ModelV) (f l s g b : Nat → Int32) : kp (ML m f l s g b) = kp m := by
  unfold ML
  rw [kp_gapBegin, kp_gap, kp_seenCount, kp_latestSeen, kp_firstSeen]
end FIELDS2
