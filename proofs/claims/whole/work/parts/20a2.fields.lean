section FIELDS
variable (m : ModelV)
theorem Mo_now_now (x : Nat → Int32) : Model_now (Model_set_now m x) = x := rfl
theorem Mo_draft_now (x : Nat → Int32) : Model_draft (Model_set_now m x) = Model_draft m := rfl
theorem Mo_snapshot_now (x : Nat → Int32) : Model_snapshot (Model_set_now m x) = Model_snapshot m := rfl
theorem Mo_history_now (x : Nat → Int32) : Model_history (Model_set_now m x) = Model_history m := rfl
theorem Mo_undoCount_now (x : Nat → Int32) : Model_undoCount (Model_set_now m x) = Model_undoCount m := rfl
theorem Mo_thrown_now (x : Nat → Int32) : Model_thrown (Model_set_now m x) = Model_thrown m := rfl
theorem Mo_hasSnapshot_now (x : Nat → Int32) : Model_hasSnapshot (Model_set_now m x) = Model_hasSnapshot m := rfl
theorem Mo_joined_now (x : Nat → Int32) : Model_joined (Model_set_now m x) = Model_joined m := rfl
theorem Mo_phases_now (x : Nat → Int32) : Model_phases (Model_set_now m x) = Model_phases m := rfl
theorem Mo_firstSeen_now (x : Nat → Int32) : Model_firstSeen (Model_set_now m x) = Model_firstSeen m := rfl
theorem Mo_latestSeen_now (x : Nat → Int32) : Model_latestSeen (Model_set_now m x) = Model_latestSeen m := rfl
theorem Mo_seenCount_now (x : Nat → Int32) : Model_seenCount (Model_set_now m x) = Model_seenCount m := rfl
theorem Mo_gap_now (x : Nat → Int32) : Model_gap (Model_set_now m x) = Model_gap m := rfl
theorem Mo_gapBegin_now (x : Nat → Int32) : Model_gapBegin (Model_set_now m x) = Model_gapBegin m := rfl
theorem Mo_cycleNow_now (x : Nat → Int32) : Model_cycleNow (Model_set_now m x) = Model_cycleNow m := rfl
theorem Mo_bestPhases_now (x : Nat → Int32) : Model_bestPhases (Model_set_now m x) = Model_bestPhases m := rfl
theorem Mo_leastWorst_now (x : Nat → Int32) : Model_leastWorst (Model_set_now m x) = Model_leastWorst m := rfl
theorem Mo_leastCrossings_now (x : Nat → Int32) : Model_leastCrossings (Model_set_now m x) = Model_leastCrossings m := rfl
theorem Mo_formatted_now (x : Nat → Int32) : Model_formatted (Model_set_now m x) = Model_formatted m := rfl
theorem Mo_formattedLength_now (x : Nat → Int32) : Model_formattedLength (Model_set_now m x) = Model_formattedLength m := rfl
theorem Mo_buffer_now (x : Nat → Int32) : Model_buffer (Model_set_now m x) = Model_buffer m := rfl
theorem Mo_bufferLength_now (x : Nat → Int32) : Model_bufferLength (Model_set_now m x) = Model_bufferLength m := rfl
theorem Mo_limit_now (x : Nat → Int32) : Model_limit (Model_set_now m x) = Model_limit m := rfl
theorem Mo_next_now (x : Nat → Int32) : Model_next (Model_set_now m x) = Model_next m := rfl
theorem Mo_beginsAt_now (x : Nat → Int32) : Model_beginsAt (Model_set_now m x) = Model_beginsAt m := rfl
theorem Mo_token_now (x : Nat → Int32) : Model_token (Model_set_now m x) = Model_token m := rfl
theorem Mo_error_now (x : Nat → Int32) : Model_error (Model_set_now m x) = Model_error m := rfl
theorem Mo_errorAt_now (x : Nat → Int32) : Model_errorAt (Model_set_now m x) = Model_errorAt m := rfl
theorem Mo_errorPosition_now (x : Nat → Int32) : Model_errorPosition (Model_set_now m x) = Model_errorPosition m := rfl
theorem Mo_nested_now (x : Nat → Int32) : Model_nested (Model_set_now m x) = Model_nested m := rfl
theorem Mo_codes_now (x : Nat → Int32) : Model_codes (Model_set_now m x) = Model_codes m := rfl
theorem Mo_stack_now (x : Nat → Int32) : Model_stack (Model_set_now m x) = Model_stack m := rfl
theorem Mo_codeCount_now (x : Nat → Int32) : Model_codeCount (Model_set_now m x) = Model_codeCount m := rfl
theorem Mo_now_draft (x : Nat → Int32) : Model_now (Model_set_draft m x) = Model_now m := rfl
theorem Mo_draft_draft (x : Nat → Int32) : Model_draft (Model_set_draft m x) = x := rfl
theorem Mo_snapshot_draft (x : Nat → Int32) : Model_snapshot (Model_set_draft m x) = Model_snapshot m := rfl
theorem Mo_history_draft (x : Nat → Int32) : Model_history (Model_set_draft m x) = Model_history m := rfl
theorem Mo_undoCount_draft (x : Nat → Int32) : Model_undoCount (Model_set_draft m x) = Model_undoCount m := rfl
theorem Mo_thrown_draft (x : Nat → Int32) : Model_thrown (Model_set_draft m x) = Model_thrown m := rfl
theorem Mo_hasSnapshot_draft (x : Nat → Int32) : Model_hasSnapshot (Model_set_draft m x) = Model_hasSnapshot m := rfl
theorem Mo_joined_draft (x : Nat → Int32) : Model_joined (Model_set_draft m x) = Model_joined m := rfl
theorem Mo_phases_draft (x : Nat → Int32) : Model_phases (Model_set_draft m x) = Model_phases m := rfl
theorem Mo_firstSeen_draft (x : Nat → Int32) : Model_firstSeen (Model_set_draft m x) = Model_firstSeen m := rfl
theorem Mo_latestSeen_draft (x : Nat → Int32) : Model_latestSeen (Model_set_draft m x) = Model_latestSeen m := rfl
theorem Mo_seenCount_draft (x : Nat → Int32) : Model_seenCount (Model_set_draft m x) = Model_seenCount m := rfl
theorem Mo_gap_draft (x : Nat → Int32) : Model_gap (Model_set_draft m x) = Model_gap m := rfl
theorem Mo_gapBegin_draft (x : Nat → Int32) : Model_gapBegin (Model_set_draft m x) = Model_gapBegin m := rfl
theorem Mo_cycleNow_draft (x : Nat → Int32) : Model_cycleNow (Model_set_draft m x) = Model_cycleNow m := rfl
theorem Mo_bestPhases_draft (x : Nat → Int32) : Model_bestPhases (Model_set_draft m x) = Model_bestPhases m := rfl
theorem Mo_leastWorst_draft (x : Nat → Int32) : Model_leastWorst (Model_set_draft m x) = Model_leastWorst m := rfl
theorem Mo_leastCrossings_draft (x : Nat → Int32) : Model_leastCrossings (Model_set_draft m x) = Model_leastCrossings m := rfl
theorem Mo_formatted_draft (x : Nat → Int32) : Model_formatted (Model_set_draft m x) = Model_formatted m := rfl
theorem Mo_formattedLength_draft (x : Nat → Int32) : Model_formattedLength (Model_set_draft m x) = Model_formattedLength m := rfl
theorem Mo_buffer_draft (x : Nat → Int32) : Model_buffer (Model_set_draft m x) = Model_buffer m := rfl
theorem Mo_bufferLength_draft (x : Nat → Int32) : Model_bufferLength (Model_set_draft m x) = Model_bufferLength m := rfl
theorem Mo_limit_draft (x : Nat → Int32) : Model_limit (Model_set_draft m x) = Model_limit m := rfl
theorem Mo_next_draft (x : Nat → Int32) : Model_next (Model_set_draft m x) = Model_next m := rfl
theorem Mo_beginsAt_draft (x : Nat → Int32) : Model_beginsAt (Model_set_draft m x) = Model_beginsAt m := rfl
theorem Mo_token_draft (x : Nat → Int32) : Model_token (Model_set_draft m x) = Model_token m := rfl
theorem Mo_error_draft (x : Nat → Int32) : Model_error (Model_set_draft m x) = Model_error m := rfl
theorem Mo_errorAt_draft (x : Nat → Int32) : Model_errorAt (Model_set_draft m x) = Model_errorAt m := rfl
theorem Mo_errorPosition_draft (x : Nat → Int32) : Model_errorPosition (Model_set_draft m x) = Model_errorPosition m := rfl
theorem Mo_nested_draft (x : Nat → Int32) : Model_nested (Model_set_draft m x) = Model_nested m := rfl
theorem Mo_codes_draft (x : Nat → Int32) : Model_codes (Model_set_draft m x) = Model_codes m := rfl
theorem Mo_stack_draft (x : Nat → Int32) : Model_stack (Model_set_draft m x) = Model_stack m := rfl
theorem Mo_codeCount_draft (x : Nat → Int32) : Model_codeCount (Model_set_draft m x) = Model_codeCount m := rfl
theorem Mo_now_snapshot (x : Nat → Int32) : Model_now (Model_set_snapshot m x) = Model_now m := rfl
theorem Mo_draft_snapshot (x : Nat → Int32) : Model_draft (Model_set_snapshot m x) = Model_draft m := rfl
theorem Mo_snapshot_snapshot (x : Nat → Int32) : Model_snapshot (Model_set_snapshot m x) = x := rfl
theorem Mo_history_snapshot (x : Nat → Int32) : Model_history (Model_set_snapshot m x) = Model_history m := rfl
theorem Mo_undoCount_snapshot (x : Nat → Int32) : Model_undoCount (Model_set_snapshot m x) = Model_undoCount m := rfl
theorem Mo_thrown_snapshot (x : Nat → Int32) : Model_thrown (Model_set_snapshot m x) = Model_thrown m := rfl
theorem Mo_hasSnapshot_snapshot (x : Nat → Int32) : Model_hasSnapshot (Model_set_snapshot m x) = Model_hasSnapshot m := rfl
theorem Mo_joined_snapshot (x : Nat → Int32) : Model_joined (Model_set_snapshot m x) = Model_joined m := rfl
theorem Mo_phases_snapshot (x : Nat → Int32) : Model_phases (Model_set_snapshot m x) = Model_phases m := rfl
theorem Mo_firstSeen_snapshot (x : Nat → Int32) : Model_firstSeen (Model_set_snapshot m x) = Model_firstSeen m := rfl
theorem Mo_latestSeen_snapshot (x : Nat → Int32) : Model_latestSeen (Model_set_snapshot m x) = Model_latestSeen m := rfl
theorem Mo_seenCount_snapshot (x : Nat → Int32) : Model_seenCount (Model_set_snapshot m x) = Model_seenCount m := rfl
theorem Mo_gap_snapshot (x : Nat → Int32) : Model_gap (Model_set_snapshot m x) = Model_gap m := rfl
theorem Mo_gapBegin_snapshot (x : Nat → Int32) : Model_gapBegin (Model_set_snapshot m x) = Model_gapBegin m := rfl
theorem Mo_cycleNow_snapshot (x : Nat → Int32) : Model_cycleNow (Model_set_snapshot m x) = Model_cycleNow m := rfl
theorem Mo_bestPhases_snapshot (x : Nat → Int32) : Model_bestPhases (Model_set_snapshot m x) = Model_bestPhases m := rfl
theorem Mo_leastWorst_snapshot (x : Nat → Int32) : Model_leastWorst (Model_set_snapshot m x) = Model_leastWorst m := rfl
theorem Mo_leastCrossings_snapshot (x : Nat → Int32) : Model_leastCrossings (Model_set_snapshot m x) = Model_leastCrossings m := rfl
theorem Mo_formatted_snapshot (x : Nat → Int32) : Model_formatted (Model_set_snapshot m x) = Model_formatted m := rfl
theorem Mo_formattedLength_snapshot (x : Nat → Int32) : Model_formattedLength (Model_set_snapshot m x) = Model_formattedLength m := rfl
theorem Mo_buffer_snapshot (x : Nat → Int32) : Model_buffer (Model_set_snapshot m x) = Model_buffer m := rfl
theorem Mo_bufferLength_snapshot (x : Nat → Int32) : Model_bufferLength (Model_set_snapshot m x) = Model_bufferLength m := rfl
theorem Mo_limit_snapshot (x : Nat → Int32) : Model_limit (Model_set_snapshot m x) = Model_limit m := rfl
theorem Mo_next_snapshot (x : Nat → Int32) : Model_next (Model_set_snapshot m x) = Model_next m := rfl
theorem Mo_beginsAt_snapshot (x : Nat → Int32) : Model_beginsAt (Model_set_snapshot m x) = Model_beginsAt m := rfl
theorem Mo_token_snapshot (x : Nat → Int32) : Model_token (Model_set_snapshot m x) = Model_token m := rfl
theorem Mo_error_snapshot (x : Nat → Int32) : Model_error (Model_set_snapshot m x) = Model_error m := rfl
theorem Mo_errorAt_snapshot (x : Nat → Int32) : Model_errorAt (Model_set_snapshot m x) = Model_errorAt m := rfl
theorem Mo_errorPosition_snapshot (x : Nat → Int32) : Model_errorPosition (Model_set_snapshot m x) = Model_errorPosition m := rfl
theorem Mo_nested_snapshot (x : Nat → Int32) : Model_nested (Model_set_snapshot m x) = Model_nested m := rfl
theorem Mo_codes_snapshot (x : Nat → Int32) : Model_codes (Model_set_snapshot m x) = Model_codes m := rfl
theorem Mo_stack_snapshot (x : Nat → Int32) : Model_stack (Model_set_snapshot m x) = Model_stack m := rfl
theorem Mo_codeCount_snapshot (x : Nat → Int32) : Model_codeCount (Model_set_snapshot m x) = Model_codeCount m := rfl
theorem Mo_now_history (x : Nat → Int32) : Model_now (Model_set_history m x) = Model_now m := rfl
theorem Mo_draft_history (x : Nat → Int32) : Model_draft (Model_set_history m x) = Model_draft m := rfl
theorem Mo_snapshot_history (x : Nat → Int32) : Model_snapshot (Model_set_history m x) = Model_snapshot m := rfl
theorem Mo_history_history (x : Nat → Int32) : Model_history (Model_set_history m x) = x := rfl
theorem Mo_undoCount_history (x : Nat → Int32) : Model_undoCount (Model_set_history m x) = Model_undoCount m := rfl
theorem Mo_thrown_history (x : Nat → Int32) : Model_thrown (Model_set_history m x) = Model_thrown m := rfl
theorem Mo_hasSnapshot_history (x : Nat → Int32) : Model_hasSnapshot (Model_set_history m x) = Model_hasSnapshot m := rfl
theorem Mo_joined_history (x : Nat → Int32) : Model_joined (Model_set_history m x) = Model_joined m := rfl
theorem Mo_phases_history (x : Nat → Int32) : Model_phases (Model_set_history m x) = Model_phases m := rfl
theorem Mo_firstSeen_history (x : Nat → Int32) : Model_firstSeen (Model_set_history m x) = Model_firstSeen m := rfl
theorem Mo_latestSeen_history (x : Nat → Int32) : Model_latestSeen (Model_set_history m x) = Model_latestSeen m := rfl
theorem Mo_seenCount_history (x : Nat → Int32) : Model_seenCount (Model_set_history m x) = Model_seenCount m := rfl
theorem Mo_gap_history (x : Nat → Int32) : Model_gap (Model_set_history m x) = Model_gap m := rfl
theorem Mo_gapBegin_history (x : Nat → Int32) : Model_gapBegin (Model_set_history m x) = Model_gapBegin m := rfl
theorem Mo_cycleNow_history (x : Nat → Int32) : Model_cycleNow (Model_set_history m x) = Model_cycleNow m := rfl
theorem Mo_bestPhases_history (x : Nat → Int32) : Model_bestPhases (Model_set_history m x) = Model_bestPhases m := rfl
theorem Mo_leastWorst_history (x : Nat → Int32) : Model_leastWorst (Model_set_history m x) = Model_leastWorst m := rfl
theorem Mo_leastCrossings_history (x : Nat → Int32) : Model_leastCrossings (Model_set_history m x) = Model_leastCrossings m := rfl
theorem Mo_formatted_history (x : Nat → Int32) : Model_formatted (Model_set_history m x) = Model_formatted m := rfl
theorem Mo_formattedLength_history (x : Nat → Int32) : Model_formattedLength (Model_set_history m x) = Model_formattedLength m := rfl
theorem Mo_buffer_history (x : Nat → Int32) : Model_buffer (Model_set_history m x) = Model_buffer m := rfl
theorem Mo_bufferLength_history (x : Nat → Int32) : Model_bufferLength (Model_set_history m x) = Model_bufferLength m := rfl
theorem Mo_limit_history (x : Nat → Int32) : Model_limit (Model_set_history m x) = Model_limit m := rfl
theorem Mo_next_history (x : Nat → Int32) : Model_next (Model_set_history m x) = Model_next m := rfl
theorem Mo_beginsAt_history (x : Nat → Int32) : Model_beginsAt (Model_set_history m x) = Model_beginsAt m := rfl
theorem Mo_token_history (x : Nat → Int32) : Model_token (Model_set_history m x) = Model_token m := rfl
theorem Mo_error_history (x : Nat → Int32) : Model_error (Model_set_history m x) = Model_error m := rfl
theorem Mo_errorAt_history (x : Nat → Int32) : Model_errorAt (Model_set_history m x) = Model_errorAt m := rfl
theorem Mo_errorPosition_history (x : Nat → Int32) : Model_errorPosition (Model_set_history m x) = Model_errorPosition m := rfl
theorem Mo_nested_history (x : Nat → Int32) : Model_nested (Model_set_history m x) = Model_nested m := rfl
theorem Mo_codes_history (x : Nat → Int32) : Model_codes (Model_set_history m x) = Model_codes m := rfl
theorem Mo_stack_history (x : Nat → Int32) : Model_stack (Model_set_history m x) = Model_stack m := rfl
theorem Mo_codeCount_history (x : Nat → Int32) : Model_codeCount (Model_set_history m x) = Model_codeCount m := rfl
theorem Mo_now_undoCount (x : Int32) : Model_now (Model_set_undoCount m x) = Model_now m := rfl
theorem Mo_draft_undoCount (x : Int32) : Model_draft (Model_set_undoCount m x) = Model_draft m := rfl
theorem Mo_snapshot_undoCount (x : Int32) : Model_snapshot (Model_set_undoCount m x) = Model_snapshot m := rfl
theorem Mo_history_undoCount (x : Int32) : Model_history (Model_set_undoCount m x) = Model_history m := rfl
theorem Mo_undoCount_undoCount (x : Int32) : Model_undoCount (Model_set_undoCount m x) = x := rfl
theorem Mo_thrown_undoCount (x : Int32) : Model_thrown (Model_set_undoCount m x) = Model_thrown m := rfl
theorem Mo_hasSnapshot_undoCount (x : Int32) : Model_hasSnapshot (Model_set_undoCount m x) = Model_hasSnapshot m := rfl
theorem Mo_joined_undoCount (x : Int32) : Model_joined (Model_set_undoCount m x) = Model_joined m := rfl
theorem Mo_phases_undoCount (x : Int32) : Model_phases (Model_set_undoCount m x) = Model_phases m := rfl
theorem Mo_firstSeen_undoCount (x : Int32) : Model_firstSeen (Model_set_undoCount m x) = Model_firstSeen m := rfl
theorem Mo_latestSeen_undoCount (x : Int32) : Model_latestSeen (Model_set_undoCount m x) = Model_latestSeen m := rfl
theorem Mo_seenCount_undoCount (x : Int32) : Model_seenCount (Model_set_undoCount m x) = Model_seenCount m := rfl
theorem Mo_gap_undoCount (x : Int32) : Model_gap (Model_set_undoCount m x) = Model_gap m := rfl
theorem Mo_gapBegin_undoCount (x : Int32) : Model_gapBegin (Model_set_undoCount m x) = Model_gapBegin m := rfl
theorem Mo_cycleNow_undoCount (x : Int32) : Model_cycleNow (Model_set_undoCount m x) = Model_cycleNow m := rfl
theorem Mo_bestPhases_undoCount (x : Int32) : Model_bestPhases (Model_set_undoCount m x) = Model_bestPhases m := rfl
theorem Mo_leastWorst_undoCount (x : Int32) : Model_leastWorst (Model_set_undoCount m x) = Model_leastWorst m := rfl
theorem Mo_leastCrossings_undoCount (x : Int32) : Model_leastCrossings (Model_set_undoCount m x) = Model_leastCrossings m := rfl
theorem Mo_formatted_undoCount (x : Int32) : Model_formatted (Model_set_undoCount m x) = Model_formatted m := rfl
theorem Mo_formattedLength_undoCount (x : Int32) : Model_formattedLength (Model_set_undoCount m x) = Model_formattedLength m := rfl
theorem Mo_buffer_undoCount (x : Int32) : Model_buffer (Model_set_undoCount m x) = Model_buffer m := rfl
theorem Mo_bufferLength_undoCount (x : Int32) : Model_bufferLength (Model_set_undoCount m x) = Model_bufferLength m := rfl
theorem Mo_limit_undoCount (x : Int32) : Model_limit (Model_set_undoCount m x) = Model_limit m := rfl
theorem Mo_next_undoCount (x : Int32) : Model_next (Model_set_undoCount m x) = Model_next m := rfl
theorem Mo_beginsAt_undoCount (x : Int32) : Model_beginsAt (Model_set_undoCount m x) = Model_beginsAt m := rfl
theorem Mo_token_undoCount (x : Int32) : Model_token (Model_set_undoCount m x) = Model_token m := rfl
theorem Mo_error_undoCount (x : Int32) : Model_error (Model_set_undoCount m x) = Model_error m := rfl
theorem Mo_errorAt_undoCount (x : Int32) : Model_errorAt (Model_set_undoCount m x) = Model_errorAt m := rfl
theorem Mo_errorPosition_undoCount (x : Int32) : Model_errorPosition (Model_set_undoCount m x) = Model_errorPosition m := rfl
theorem Mo_nested_undoCount (x : Int32) : Model_nested (Model_set_undoCount m x) = Model_nested m := rfl
theorem Mo_codes_undoCount (x : Int32) : Model_codes (Model_set_undoCount m x) = Model_codes m := rfl
theorem Mo_stack_undoCount (x : Int32) : Model_stack (Model_set_undoCount m x) = Model_stack m := rfl
theorem Mo_codeCount_undoCount (x : Int32) : Model_codeCount (Model_set_undoCount m x) = Model_codeCount m := rfl
theorem Mo_now_thrown (x : Int32) : Model_now (Model_set_thrown m x) = Model_now m := rfl
theorem Mo_draft_thrown (x : Int32) : Model_draft (Model_set_thrown m x) = Model_draft m := rfl
theorem Mo_snapshot_thrown (x : Int32) : Model_snapshot (Model_set_thrown m x) = Model_snapshot m := rfl
theorem Mo_history_thrown (x : Int32) : Model_history (Model_set_thrown m x) = Model_history m := rfl
theorem Mo_undoCount_thrown (x : Int32) : Model_undoCount (Model_set_thrown m x) = Model_undoCount m := rfl
theorem Mo_thrown_thrown (x : Int32) : Model_thrown (Model_set_thrown m x) = x := rfl
theorem Mo_hasSnapshot_thrown (x : Int32) : Model_hasSnapshot (Model_set_thrown m x) = Model_hasSnapshot m := rfl
theorem Mo_joined_thrown (x : Int32) : Model_joined (Model_set_thrown m x) = Model_joined m := rfl
theorem Mo_phases_thrown (x : Int32) : Model_phases (Model_set_thrown m x) = Model_phases m := rfl
theorem Mo_firstSeen_thrown (x : Int32) : Model_firstSeen (Model_set_thrown m x) = Model_firstSeen m := rfl
theorem Mo_latestSeen_thrown (x : Int32) : Model_latestSeen (Model_set_thrown m x) = Model_latestSeen m := rfl
theorem Mo_seenCount_thrown (x : Int32) : Model_seenCount (Model_set_thrown m x) = Model_seenCount m := rfl
theorem Mo_gap_thrown (x : Int32) : Model_gap (Model_set_thrown m x) = Model_gap m := rfl
theorem Mo_gapBegin_thrown (x : Int32) : Model_gapBegin (Model_set_thrown m x) = Model_gapBegin m := rfl
theorem Mo_cycleNow_thrown (x : Int32) : Model_cycleNow (Model_set_thrown m x) = Model_cycleNow m := rfl
theorem Mo_bestPhases_thrown (x : Int32) : Model_bestPhases (Model_set_thrown m x) = Model_bestPhases m := rfl
theorem Mo_leastWorst_thrown (x : Int32) : Model_leastWorst (Model_set_thrown m x) = Model_leastWorst m := rfl
theorem Mo_leastCrossings_thrown (x : Int32) : Model_leastCrossings (Model_set_thrown m x) = Model_leastCrossings m := rfl
theorem Mo_formatted_thrown (x : Int32) : Model_formatted (Model_set_thrown m x) = Model_formatted m := rfl
theorem Mo_formattedLength_thrown (x : Int32) : Model_formattedLength (Model_set_thrown m x) = Model_formattedLength m := rfl
theorem Mo_buffer_thrown (x : Int32) : Model_buffer (Model_set_thrown m x) = Model_buffer m := rfl
theorem Mo_bufferLength_thrown (x : Int32) : Model_bufferLength (Model_set_thrown m x) = Model_bufferLength m := rfl
theorem Mo_limit_thrown (x : Int32) : Model_limit (Model_set_thrown m x) = Model_limit m := rfl
theorem Mo_next_thrown (x : Int32) : Model_next (Model_set_thrown m x) = Model_next m := rfl
theorem Mo_beginsAt_thrown (x : Int32) : Model_beginsAt (Model_set_thrown m x) = Model_beginsAt m := rfl
theorem Mo_token_thrown (x : Int32) : Model_token (Model_set_thrown m x) = Model_token m := rfl
theorem Mo_error_thrown (x : Int32) : Model_error (Model_set_thrown m x) = Model_error m := rfl
theorem Mo_errorAt_thrown (x : Int32) : Model_errorAt (Model_set_thrown m x) = Model_errorAt m := rfl
theorem Mo_errorPosition_thrown (x : Int32) : Model_errorPosition (Model_set_thrown m x) = Model_errorPosition m := rfl
theorem Mo_nested_thrown (x : Int32) : Model_nested (Model_set_thrown m x) = Model_nested m := rfl
theorem Mo_codes_thrown (x : Int32) : Model_codes (Model_set_thrown m x) = Model_codes m := rfl
theorem Mo_stack_thrown (x : Int32) : Model_stack (Model_set_thrown m x) = Model_stack m := rfl
theorem Mo_codeCount_thrown (x : Int32) : Model_codeCount (Model_set_thrown m x) = Model_codeCount m := rfl
theorem Mo_now_hasSnapshot (x : Bool) : Model_now (Model_set_hasSnapshot m x) = Model_now m := rfl
theorem Mo_draft_hasSnapshot (x : Bool) : Model_draft (Model_set_hasSnapshot m x) = Model_draft m := rfl
theorem Mo_snapshot_hasSnapshot (x : Bool) : Model_snapshot (Model_set_hasSnapshot m x) = Model_snapshot m := rfl
theorem Mo_history_hasSnapshot (x : Bool) : Model_history (Model_set_hasSnapshot m x) = Model_history m := rfl
theorem Mo_undoCount_hasSnapshot (x : Bool) : Model_undoCount (Model_set_hasSnapshot m x) = Model_undoCount m := rfl
theorem Mo_thrown_hasSnapshot (x : Bool) : Model_thrown (Model_set_hasSnapshot m x) = Model_thrown m := rfl
theorem Mo_hasSnapshot_hasSnapshot (x : Bool) : Model_hasSnapshot (Model_set_hasSnapshot m x) = x := rfl
theorem Mo_joined_hasSnapshot (x : Bool) : Model_joined (Model_set_hasSnapshot m x) = Model_joined m := rfl
theorem Mo_phases_hasSnapshot (x : Bool) : Model_phases (Model_set_hasSnapshot m x) = Model_phases m := rfl
theorem Mo_firstSeen_hasSnapshot (x : Bool) : Model_firstSeen (Model_set_hasSnapshot m x) = Model_firstSeen m := rfl
theorem Mo_latestSeen_hasSnapshot (x : Bool) : Model_latestSeen (Model_set_hasSnapshot m x) = Model_latestSeen m := rfl
theorem Mo_seenCount_hasSnapshot (x : Bool) : Model_seenCount (Model_set_hasSnapshot m x) = Model_seenCount m := rfl
theorem Mo_gap_hasSnapshot (x : Bool) : Model_gap (Model_set_hasSnapshot m x) = Model_gap m := rfl
theorem Mo_gapBegin_hasSnapshot (x : Bool) : Model_gapBegin (Model_set_hasSnapshot m x) = Model_gapBegin m := rfl
theorem Mo_cycleNow_hasSnapshot (x : Bool) : Model_cycleNow (Model_set_hasSnapshot m x) = Model_cycleNow m := rfl
theorem Mo_bestPhases_hasSnapshot (x : Bool) : Model_bestPhases (Model_set_hasSnapshot m x) = Model_bestPhases m := rfl
theorem Mo_leastWorst_hasSnapshot (x : Bool) : Model_leastWorst (Model_set_hasSnapshot m x) = Model_leastWorst m := rfl
theorem Mo_leastCrossings_hasSnapshot (x : Bool) : Model_leastCrossings (Model_set_hasSnapshot m x) = Model_leastCrossings m := rfl
theorem Mo_formatted_hasSnapshot (x : Bool) : Model_formatted (Model_set_hasSnapshot m x) = Model_formatted m := rfl
theorem Mo_formattedLength_hasSnapshot (x : Bool) : Model_formattedLength (Model_set_hasSnapshot m x) = Model_formattedLength m := rfl
theorem Mo_buffer_hasSnapshot (x : Bool) : Model_buffer (Model_set_hasSnapshot m x) = Model_buffer m := rfl
theorem Mo_bufferLength_hasSnapshot (x : Bool) : Model_bufferLength (Model_set_hasSnapshot m x) = Model_bufferLength m := rfl
theorem Mo_limit_hasSnapshot (x : Bool) : Model_limit (Model_set_hasSnapshot m x) = Model_limit m := rfl
theorem Mo_next_hasSnapshot (x : Bool) : Model_next (Model_set_hasSnapshot m x) = Model_next m := rfl
theorem Mo_beginsAt_hasSnapshot (x : Bool) : Model_beginsAt (Model_set_hasSnapshot m x) = Model_beginsAt m := rfl
theorem Mo_token_hasSnapshot (x : Bool) : Model_token (Model_set_hasSnapshot m x) = Model_token m := rfl
theorem Mo_error_hasSnapshot (x : Bool) : Model_error (Model_set_hasSnapshot m x) = Model_error m := rfl
theorem Mo_errorAt_hasSnapshot (x : Bool) : Model_errorAt (Model_set_hasSnapshot m x) = Model_errorAt m := rfl
theorem Mo_errorPosition_hasSnapshot (x : Bool) : Model_errorPosition (Model_set_hasSnapshot m x) = Model_errorPosition m := rfl
theorem Mo_nested_hasSnapshot (x : Bool) : Model_nested (Model_set_hasSnapshot m x) = Model_nested m := rfl
theorem Mo_codes_hasSnapshot (x : Bool) : Model_codes (Model_set_hasSnapshot m x) = Model_codes m := rfl
theorem Mo_stack_hasSnapshot (x : Bool) : Model_stack (Model_set_hasSnapshot m x) = Model_stack m := rfl
theorem Mo_codeCount_hasSnapshot (x : Bool) : Model_codeCount (Model_set_hasSnapshot m x) = Model_codeCount m := rfl
theorem Mo_now_joined (x : Nat → Int32) : Model_now (Model_set_joined m x) = Model_now m := rfl
theorem Mo_draft_joined (x : Nat → Int32) : Model_draft (Model_set_joined m x) = Model_draft m := rfl
theorem Mo_snapshot_joined (x : Nat → Int32) : Model_snapshot (Model_set_joined m x) = Model_snapshot m := rfl
theorem Mo_history_joined (x : Nat → Int32) : Model_history (Model_set_joined m x) = Model_history m := rfl
theorem Mo_undoCount_joined (x : Nat → Int32) : Model_undoCount (Model_set_joined m x) = Model_undoCount m := rfl
theorem Mo_thrown_joined (x : Nat → Int32) : Model_thrown (Model_set_joined m x) = Model_thrown m := rfl
theorem Mo_hasSnapshot_joined (x : Nat → Int32) : Model_hasSnapshot (Model_set_joined m x) = Model_hasSnapshot m := rfl
theorem Mo_joined_joined (x : Nat → Int32) : Model_joined (Model_set_joined m x) = x := rfl
theorem Mo_phases_joined (x : Nat → Int32) : Model_phases (Model_set_joined m x) = Model_phases m := rfl
theorem Mo_firstSeen_joined (x : Nat → Int32) : Model_firstSeen (Model_set_joined m x) = Model_firstSeen m := rfl
theorem Mo_latestSeen_joined (x : Nat → Int32) : Model_latestSeen (Model_set_joined m x) = Model_latestSeen m := rfl
theorem Mo_seenCount_joined (x : Nat → Int32) : Model_seenCount (Model_set_joined m x) = Model_seenCount m := rfl
theorem Mo_gap_joined (x : Nat → Int32) : Model_gap (Model_set_joined m x) = Model_gap m := rfl
theorem Mo_gapBegin_joined (x : Nat → Int32) : Model_gapBegin (Model_set_joined m x) = Model_gapBegin m := rfl
theorem Mo_cycleNow_joined (x : Nat → Int32) : Model_cycleNow (Model_set_joined m x) = Model_cycleNow m := rfl
theorem Mo_bestPhases_joined (x : Nat → Int32) : Model_bestPhases (Model_set_joined m x) = Model_bestPhases m := rfl
theorem Mo_leastWorst_joined (x : Nat → Int32) : Model_leastWorst (Model_set_joined m x) = Model_leastWorst m := rfl
theorem Mo_leastCrossings_joined (x : Nat → Int32) : Model_leastCrossings (Model_set_joined m x) = Model_leastCrossings m := rfl
theorem Mo_formatted_joined (x : Nat → Int32) : Model_formatted (Model_set_joined m x) = Model_formatted m := rfl
theorem Mo_formattedLength_joined (x : Nat → Int32) : Model_formattedLength (Model_set_joined m x) = Model_formattedLength m := rfl
theorem Mo_buffer_joined (x : Nat → Int32) : Model_buffer (Model_set_joined m x) = Model_buffer m := rfl
theorem Mo_bufferLength_joined (x : Nat → Int32) : Model_bufferLength (Model_set_joined m x) = Model_bufferLength m := rfl
theorem Mo_limit_joined (x : Nat → Int32) : Model_limit (Model_set_joined m x) = Model_limit m := rfl
theorem Mo_next_joined (x : Nat → Int32) : Model_next (Model_set_joined m x) = Model_next m := rfl
theorem Mo_beginsAt_joined (x : Nat → Int32) : Model_beginsAt (Model_set_joined m x) = Model_beginsAt m := rfl
theorem Mo_token_joined (x : Nat → Int32) : Model_token (Model_set_joined m x) = Model_token m := rfl
theorem Mo_error_joined (x : Nat → Int32) : Model_error (Model_set_joined m x) = Model_error m := rfl
theorem Mo_errorAt_joined (x : Nat → Int32) : Model_errorAt (Model_set_joined m x) = Model_errorAt m := rfl
theorem Mo_errorPosition_joined (x : Nat → Int32) : Model_errorPosition (Model_set_joined m x) = Model_errorPosition m := rfl
theorem Mo_nested_joined (x : Nat → Int32) : Model_nested (Model_set_joined m x) = Model_nested m := rfl
theorem Mo_codes_joined (x : Nat → Int32) : Model_codes (Model_set_joined m x) = Model_codes m := rfl
theorem Mo_stack_joined (x : Nat → Int32) : Model_stack (Model_set_joined m x) = Model_stack m := rfl
theorem Mo_codeCount_joined (x : Nat → Int32) : Model_codeCount (Model_set_joined m x) = Model_codeCount m := rfl
theorem Mo_now_phases (x : Nat → Int32) : Model_now (Model_set_phases m x) = Model_now m := rfl
theorem Mo_draft_phases (x : Nat → Int32) : Model_draft (Model_set_phases m x) = Model_draft m := rfl
theorem Mo_snapshot_phases (x : Nat → Int32) : Model_snapshot (Model_set_phases m x) = Model_snapshot m := rfl
theorem Mo_history_phases (x : Nat → Int32) : Model_history (Model_set_phases m x) = Model_history m := rfl
theorem Mo_undoCount_phases (x : Nat → Int32) : Model_undoCount (Model_set_phases m x) = Model_undoCount m := rfl
theorem Mo_thrown_phases (x : Nat → Int32) : Model_thrown (Model_set_phases m x) = Model_thrown m := rfl
theorem Mo_hasSnapshot_phases (x : Nat → Int32) : Model_hasSnapshot (Model_set_phases m x) = Model_hasSnapshot m := rfl
theorem Mo_joined_phases (x : Nat → Int32) : Model_joined (Model_set_phases m x) = Model_joined m := rfl
theorem Mo_phases_phases (x : Nat → Int32) : Model_phases (Model_set_phases m x) = x := rfl
theorem Mo_firstSeen_phases (x : Nat → Int32) : Model_firstSeen (Model_set_phases m x) = Model_firstSeen m := rfl
theorem Mo_latestSeen_phases (x : Nat → Int32) : Model_latestSeen (Model_set_phases m x) = Model_latestSeen m := rfl
theorem Mo_seenCount_phases (x : Nat → Int32) : Model_seenCount (Model_set_phases m x) = Model_seenCount m := rfl
theorem Mo_gap_phases (x : Nat → Int32) : Model_gap (Model_set_phases m x) = Model_gap m := rfl
theorem Mo_gapBegin_phases (x : Nat → Int32) : Model_gapBegin (Model_set_phases m x) = Model_gapBegin m := rfl
theorem Mo_cycleNow_phases (x : Nat → Int32) : Model_cycleNow (Model_set_phases m x) = Model_cycleNow m := rfl
theorem Mo_bestPhases_phases (x : Nat → Int32) : Model_bestPhases (Model_set_phases m x) = Model_bestPhases m := rfl
theorem Mo_leastWorst_phases (x : Nat → Int32) : Model_leastWorst (Model_set_phases m x) = Model_leastWorst m := rfl
theorem Mo_leastCrossings_phases (x : Nat → Int32) : Model_leastCrossings (Model_set_phases m x) = Model_leastCrossings m := rfl
theorem Mo_formatted_phases (x : Nat → Int32) : Model_formatted (Model_set_phases m x) = Model_formatted m := rfl
theorem Mo_formattedLength_phases (x : Nat → Int32) : Model_formattedLength (Model_set_phases m x) = Model_formattedLength m := rfl
theorem Mo_buffer_phases (x : Nat → Int32) : Model_buffer (Model_set_phases m x) = Model_buffer m := rfl
theorem Mo_bufferLength_phases (x : Nat → Int32) : Model_bufferLength (Model_set_phases m x) = Model_bufferLength m := rfl
theorem Mo_limit_phases (x : Nat → Int32) : Model_limit (Model_set_phases m x) = Model_limit m := rfl
theorem Mo_next_phases (x : Nat → Int32) : Model_next (Model_set_phases m x) = Model_next m := rfl
theorem Mo_beginsAt_phases (x : Nat → Int32) : Model_beginsAt (Model_set_phases m x) = Model_beginsAt m := rfl
theorem Mo_token_phases (x : Nat → Int32) : Model_token (Model_set_phases m x) = Model_token m := rfl
theorem Mo_error_phases (x : Nat → Int32) : Model_error (Model_set_phases m x) = Model_error m := rfl
theorem Mo_errorAt_phases (x : Nat → Int32) : Model_errorAt (Model_set_phases m x) = Model_errorAt m := rfl
theorem Mo_errorPosition_phases (x : Nat → Int32) : Model_errorPosition (Model_set_phases m x) = Model_errorPosition m := rfl
theorem Mo_nested_phases (x : Nat → Int32) : Model_nested (Model_set_phases m x) = Model_nested m := rfl
theorem Mo_codes_phases (x : Nat → Int32) : Model_codes (Model_set_phases m x) = Model_codes m := rfl
theorem Mo_stack_phases (x : Nat → Int32) : Model_stack (Model_set_phases m x) = Model_stack m := rfl
theorem Mo_codeCount_phases (x : Nat → Int32) : Model_codeCount (Model_set_phases m x) = Model_codeCount m := rfl
theorem Mo_now_firstSeen (x : Nat → Int32) : Model_now (Model_set_firstSeen m x) = Model_now m := rfl
theorem Mo_draft_firstSeen (x : Nat → Int32) : Model_draft (Model_set_firstSeen m x) = Model_draft m := rfl
theorem Mo_snapshot_firstSeen (x : Nat → Int32) : Model_snapshot (Model_set_firstSeen m x) = Model_snapshot m := rfl
theorem Mo_history_firstSeen (x : Nat → Int32) : Model_history (Model_set_firstSeen m x) = Model_history m := rfl
theorem Mo_undoCount_firstSeen (x : Nat → Int32) : Model_undoCount (Model_set_firstSeen m x) = Model_undoCount m := rfl
theorem Mo_thrown_firstSeen (x : Nat → Int32) : Model_thrown (Model_set_firstSeen m x) = Model_thrown m := rfl
theorem Mo_hasSnapshot_firstSeen (x : Nat → Int32) : Model_hasSnapshot (Model_set_firstSeen m x) = Model_hasSnapshot m := rfl
theorem Mo_joined_firstSeen (x : Nat → Int32) : Model_joined (Model_set_firstSeen m x) = Model_joined m := rfl
theorem Mo_phases_firstSeen (x : Nat → Int32) : Model_phases (Model_set_firstSeen m x) = Model_phases m := rfl
theorem Mo_firstSeen_firstSeen (x : Nat → Int32) : Model_firstSeen (Model_set_firstSeen m x) = x := rfl
theorem Mo_latestSeen_firstSeen (x : Nat → Int32) : Model_latestSeen (Model_set_firstSeen m x) = Model_latestSeen m := rfl
theorem Mo_seenCount_firstSeen (x : Nat → Int32) : Model_seenCount (Model_set_firstSeen m x) = Model_seenCount m := rfl
theorem Mo_gap_firstSeen (x : Nat → Int32) : Model_gap (Model_set_firstSeen m x) = Model_gap m := rfl
theorem Mo_gapBegin_firstSeen (x : Nat → Int32) : Model_gapBegin (Model_set_firstSeen m x) = Model_gapBegin m := rfl
theorem Mo_cycleNow_firstSeen (x : Nat → Int32) : Model_cycleNow (Model_set_firstSeen m x) = Model_cycleNow m := rfl
theorem Mo_bestPhases_firstSeen (x : Nat → Int32) : Model_bestPhases (Model_set_firstSeen m x) = Model_bestPhases m := rfl
theorem Mo_leastWorst_firstSeen (x : Nat → Int32) : Model_leastWorst (Model_set_firstSeen m x) = Model_leastWorst m := rfl
theorem Mo_leastCrossings_firstSeen (x : Nat → Int32) : Model_leastCrossings (Model_set_firstSeen m x) = Model_leastCrossings m := rfl
theorem Mo_formatted_firstSeen (x : Nat → Int32) : Model_formatted (Model_set_firstSeen m x) = Model_formatted m := rfl
theorem Mo_formattedLength_firstSeen (x : Nat → Int32) : Model_formattedLength (Model_set_firstSeen m x) = Model_formattedLength m := rfl
theorem Mo_buffer_firstSeen (x : Nat → Int32) : Model_buffer (Model_set_firstSeen m x) = Model_buffer m := rfl
theorem Mo_bufferLength_firstSeen (x : Nat → Int32) : Model_bufferLength (Model_set_firstSeen m x) = Model_bufferLength m := rfl
theorem Mo_limit_firstSeen (x : Nat → Int32) : Model_limit (Model_set_firstSeen m x) = Model_limit m := rfl
theorem Mo_next_firstSeen (x : Nat → Int32) : Model_next (Model_set_firstSeen m x) = Model_next m := rfl
theorem Mo_beginsAt_firstSeen (x : Nat → Int32) : Model_beginsAt (Model_set_firstSeen m x) = Model_beginsAt m := rfl
theorem Mo_token_firstSeen (x : Nat → Int32) : Model_token (Model_set_firstSeen m x) = Model_token m := rfl
theorem Mo_error_firstSeen (x : Nat → Int32) : Model_error (Model_set_firstSeen m x) = Model_error m := rfl
theorem Mo_errorAt_firstSeen (x : Nat → Int32) : Model_errorAt (Model_set_firstSeen m x) = Model_errorAt m := rfl
theorem Mo_errorPosition_firstSeen (x : Nat → Int32) : Model_errorPosition (Model_set_firstSeen m x) = Model_errorPosition m := rfl
theorem Mo_nested_firstSeen (x : Nat → Int32) : Model_nested (Model_set_firstSeen m x) = Model_nested m := rfl
theorem Mo_codes_firstSeen (x : Nat → Int32) : Model_codes (Model_set_firstSeen m x) = Model_codes m := rfl
theorem Mo_stack_firstSeen (x : Nat → Int32) : Model_stack (Model_set_firstSeen m x) = Model_stack m := rfl
theorem Mo_codeCount_firstSeen (x : Nat → Int32) : Model_codeCount (Model_set_firstSeen m x) = Model_codeCount m := rfl
theorem Mo_now_latestSeen (x : Nat → Int32) : Model_now (Model_set_latestSeen m x) = Model_now m := rfl
theorem Mo_draft_latestSeen (x : Nat → Int32) : Model_draft (Model_set_latestSeen m x) = Model_draft m := rfl
theorem Mo_snapshot_latestSeen (x : Nat → Int32) : Model_snapshot (Model_set_latestSeen m x) = Model_snapshot m := rfl
theorem Mo_history_latestSeen (x : Nat → Int32) : Model_history (Model_set_latestSeen m x) = Model_history m := rfl
theorem Mo_undoCount_latestSeen (x : Nat → Int32) : Model_undoCount (Model_set_latestSeen m x) = Model_undoCount m := rfl
theorem Mo_thrown_latestSeen (x : Nat → Int32) : Model_thrown (Model_set_latestSeen m x) = Model_thrown m := rfl
theorem Mo_hasSnapshot_latestSeen (x : Nat → Int32) : Model_hasSnapshot (Model_set_latestSeen m x) = Model_hasSnapshot m := rfl
theorem Mo_joined_latestSeen (x : Nat → Int32) : Model_joined (Model_set_latestSeen m x) = Model_joined m := rfl
theorem Mo_phases_latestSeen (x : Nat → Int32) : Model_phases (Model_set_latestSeen m x) = Model_phases m := rfl
theorem Mo_firstSeen_latestSeen (x : Nat → Int32) : Model_firstSeen (Model_set_latestSeen m x) = Model_firstSeen m := rfl
theorem Mo_latestSeen_latestSeen (x : Nat → Int32) : Model_latestSeen (Model_set_latestSeen m x) = x := rfl
theorem Mo_seenCount_latestSeen (x : Nat → Int32) : Model_seenCount (Model_set_latestSeen m x) = Model_seenCount m := rfl
theorem Mo_gap_latestSeen (x : Nat → Int32) : Model_gap (Model_set_latestSeen m x) = Model_gap m := rfl
theorem Mo_gapBegin_latestSeen (x : Nat → Int32) : Model_gapBegin (Model_set_latestSeen m x) = Model_gapBegin m := rfl
theorem Mo_cycleNow_latestSeen (x : Nat → Int32) : Model_cycleNow (Model_set_latestSeen m x) = Model_cycleNow m := rfl
theorem Mo_bestPhases_latestSeen (x : Nat → Int32) : Model_bestPhases (Model_set_latestSeen m x) = Model_bestPhases m := rfl
theorem Mo_leastWorst_latestSeen (x : Nat → Int32) : Model_leastWorst (Model_set_latestSeen m x) = Model_leastWorst m := rfl
theorem Mo_leastCrossings_latestSeen (x : Nat → Int32) : Model_leastCrossings (Model_set_latestSeen m x) = Model_leastCrossings m := rfl
theorem Mo_formatted_latestSeen (x : Nat → Int32) : Model_formatted (Model_set_latestSeen m x) = Model_formatted m := rfl
theorem Mo_formattedLength_latestSeen (x : Nat → Int32) : Model_formattedLength (Model_set_latestSeen m x) = Model_formattedLength m := rfl
theorem Mo_buffer_latestSeen (x : Nat → Int32) : Model_buffer (Model_set_latestSeen m x) = Model_buffer m := rfl
theorem Mo_bufferLength_latestSeen (x : Nat → Int32) : Model_bufferLength (Model_set_latestSeen m x) = Model_bufferLength m := rfl
theorem Mo_limit_latestSeen (x : Nat → Int32) : Model_limit (Model_set_latestSeen m x) = Model_limit m := rfl
theorem Mo_next_latestSeen (x : Nat → Int32) : Model_next (Model_set_latestSeen m x) = Model_next m := rfl
theorem Mo_beginsAt_latestSeen (x : Nat → Int32) : Model_beginsAt (Model_set_latestSeen m x) = Model_beginsAt m := rfl
theorem Mo_token_latestSeen (x : Nat → Int32) : Model_token (Model_set_latestSeen m x) = Model_token m := rfl
theorem Mo_error_latestSeen (x : Nat → Int32) : Model_error (Model_set_latestSeen m x) = Model_error m := rfl
theorem Mo_errorAt_latestSeen (x : Nat → Int32) : Model_errorAt (Model_set_latestSeen m x) = Model_errorAt m := rfl
theorem Mo_errorPosition_latestSeen (x : Nat → Int32) : Model_errorPosition (Model_set_latestSeen m x) = Model_errorPosition m := rfl
theorem Mo_nested_latestSeen (x : Nat → Int32) : Model_nested (Model_set_latestSeen m x) = Model_nested m := rfl
theorem Mo_codes_latestSeen (x : Nat → Int32) : Model_codes (Model_set_latestSeen m x) = Model_codes m := rfl
theorem Mo_stack_latestSeen (x : Nat → Int32) : Model_stack (Model_set_latestSeen m x) = Model_stack m := rfl
theorem Mo_codeCount_latestSeen (x : Nat → Int32) : Model_codeCount (Model_set_latestSeen m x) = Model_codeCount m := rfl
theorem Mo_now_seenCount (x : Nat → Int32) : Model_now (Model_set_seenCount m x) = Model_now m := rfl
theorem Mo_draft_seenCount (x : Nat → Int32) : Model_draft (Model_set_seenCount m x) = Model_draft m := rfl
theorem Mo_snapshot_seenCount (x : Nat → Int32) : Model_snapshot (Model_set_seenCount m x) = Model_snapshot m := rfl
theorem Mo_history_seenCount (x : Nat → Int32) : Model_history (Model_set_seenCount m x) = Model_history m := rfl
theorem Mo_undoCount_seenCount (x : Nat → Int32) : Model_undoCount (Model_set_seenCount m x) = Model_undoCount m := rfl
theorem Mo_thrown_seenCount (x : Nat → Int32) : Model_thrown (Model_set_seenCount m x) = Model_thrown m := rfl
theorem Mo_hasSnapshot_seenCount (x : Nat → Int32) : Model_hasSnapshot (Model_set_seenCount m x) = Model_hasSnapshot m := rfl
theorem Mo_joined_seenCount (x : Nat → Int32) : Model_joined (Model_set_seenCount m x) = Model_joined m := rfl
theorem Mo_phases_seenCount (x : Nat → Int32) : Model_phases (Model_set_seenCount m x) = Model_phases m := rfl
theorem Mo_firstSeen_seenCount (x : Nat → Int32) : Model_firstSeen (Model_set_seenCount m x) = Model_firstSeen m := rfl
theorem Mo_latestSeen_seenCount (x : Nat → Int32) : Model_latestSeen (Model_set_seenCount m x) = Model_latestSeen m := rfl
theorem Mo_seenCount_seenCount (x : Nat → Int32) : Model_seenCount (Model_set_seenCount m x) = x := rfl
theorem Mo_gap_seenCount (x : Nat → Int32) : Model_gap (Model_set_seenCount m x) = Model_gap m := rfl
theorem Mo_gapBegin_seenCount (x : Nat → Int32) : Model_gapBegin (Model_set_seenCount m x) = Model_gapBegin m := rfl
theorem Mo_cycleNow_seenCount (x : Nat → Int32) : Model_cycleNow (Model_set_seenCount m x) = Model_cycleNow m := rfl
theorem Mo_bestPhases_seenCount (x : Nat → Int32) : Model_bestPhases (Model_set_seenCount m x) = Model_bestPhases m := rfl
theorem Mo_leastWorst_seenCount (x : Nat → Int32) : Model_leastWorst (Model_set_seenCount m x) = Model_leastWorst m := rfl
theorem Mo_leastCrossings_seenCount (x : Nat → Int32) : Model_leastCrossings (Model_set_seenCount m x) = Model_leastCrossings m := rfl
theorem Mo_formatted_seenCount (x : Nat → Int32) : Model_formatted (Model_set_seenCount m x) = Model_formatted m := rfl
theorem Mo_formattedLength_seenCount (x : Nat → Int32) : Model_formattedLength (Model_set_seenCount m x) = Model_formattedLength m := rfl
theorem Mo_buffer_seenCount (x : Nat → Int32) : Model_buffer (Model_set_seenCount m x) = Model_buffer m := rfl
theorem Mo_bufferLength_seenCount (x : Nat → Int32) : Model_bufferLength (Model_set_seenCount m x) = Model_bufferLength m := rfl
theorem Mo_limit_seenCount (x : Nat → Int32) : Model_limit (Model_set_seenCount m x) = Model_limit m := rfl
theorem Mo_next_seenCount (x : Nat → Int32) : Model_next (Model_set_seenCount m x) = Model_next m := rfl
theorem Mo_beginsAt_seenCount (x : Nat → Int32) : Model_beginsAt (Model_set_seenCount m x) = Model_beginsAt m := rfl
theorem Mo_token_seenCount (x : Nat → Int32) : Model_token (Model_set_seenCount m x) = Model_token m := rfl
theorem Mo_error_seenCount (x : Nat → Int32) : Model_error (Model_set_seenCount m x) = Model_error m := rfl
theorem Mo_errorAt_seenCount (x : Nat → Int32) : Model_errorAt (Model_set_seenCount m x) = Model_errorAt m := rfl
theorem Mo_errorPosition_seenCount (x : Nat → Int32) : Model_errorPosition (Model_set_seenCount m x) = Model_errorPosition m := rfl
theorem Mo_nested_seenCount (x : Nat → Int32) : Model_nested (Model_set_seenCount m x) = Model_nested m := rfl
theorem Mo_codes_seenCount (x : Nat → Int32) : Model_codes (Model_set_seenCount m x) = Model_codes m := rfl
theorem Mo_stack_seenCount (x : Nat → Int32) : Model_stack (Model_set_seenCount m x) = Model_stack m := rfl
theorem Mo_codeCount_seenCount (x : Nat → Int32) : Model_codeCount (Model_set_seenCount m x) = Model_codeCount m := rfl
theorem Mo_now_gap (x : Nat → Int32) : Model_now (Model_set_gap m x) = Model_now m := rfl
theorem Mo_draft_gap (x : Nat → Int32) : Model_draft (Model_set_gap m x) = Model_draft m := rfl
theorem Mo_snapshot_gap (x : Nat → Int32) : Model_snapshot (Model_set_gap m x) = Model_snapshot m := rfl
theorem Mo_history_gap (x : Nat → Int32) : Model_history (Model_set_gap m x) = Model_history m := rfl
theorem Mo_undoCount_gap (x : Nat → Int32) : Model_undoCount (Model_set_gap m x) = Model_undoCount m := rfl
theorem Mo_thrown_gap (x : Nat → Int32) : Model_thrown (Model_set_gap m x) = Model_thrown m := rfl
theorem Mo_hasSnapshot_gap (x : Nat → Int32) : Model_hasSnapshot (Model_set_gap m x) = Model_hasSnapshot m := rfl
theorem Mo_joined_gap (x : Nat → Int32) : Model_joined (Model_set_gap m x) = Model_joined m := rfl
theorem Mo_phases_gap (x : Nat → Int32) : Model_phases (Model_set_gap m x) = Model_phases m := rfl
theorem Mo_firstSeen_gap (x : Nat → Int32) : Model_firstSeen (Model_set_gap m x) = Model_firstSeen m := rfl
theorem Mo_latestSeen_gap (x : Nat → Int32) : Model_latestSeen (Model_set_gap m x) = Model_latestSeen m := rfl
theorem Mo_seenCount_gap (x : Nat → Int32) : Model_seenCount (Model_set_gap m x) = Model_seenCount m := rfl
theorem Mo_gap_gap (x : Nat → Int32) : Model_gap (Model_set_gap m x) = x := rfl
theorem Mo_gapBegin_gap (x : Nat → Int32) : Model_gapBegin (Model_set_gap m x) = Model_gapBegin m := rfl
theorem Mo_cycleNow_gap (x : Nat → Int32) : Model_cycleNow (Model_set_gap m x) = Model_cycleNow m := rfl
theorem Mo_bestPhases_gap (x : Nat → Int32) : Model_bestPhases (Model_set_gap m x) = Model_bestPhases m := rfl
theorem Mo_leastWorst_gap (x : Nat → Int32) : Model_leastWorst (Model_set_gap m x) = Model_leastWorst m := rfl
theorem Mo_leastCrossings_gap (x : Nat → Int32) : Model_leastCrossings (Model_set_gap m x) = Model_leastCrossings m := rfl
theorem Mo_formatted_gap (x : Nat → Int32) : Model_formatted (Model_set_gap m x) = Model_formatted m := rfl
theorem Mo_formattedLength_gap (x : Nat → Int32) : Model_formattedLength (Model_set_gap m x) = Model_formattedLength m := rfl
theorem Mo_buffer_gap (x : Nat → Int32) : Model_buffer (Model_set_gap m x) = Model_buffer m := rfl
theorem Mo_bufferLength_gap (x : Nat → Int32) : Model_bufferLength (Model_set_gap m x) = Model_bufferLength m := rfl
theorem Mo_limit_gap (x : Nat → Int32) : Model_limit (Model_set_gap m x) = Model_limit m := rfl
theorem Mo_next_gap (x : Nat → Int32) : Model_next (Model_set_gap m x) = Model_next m := rfl
theorem Mo_beginsAt_gap (x : Nat → Int32) : Model_beginsAt (Model_set_gap m x) = Model_beginsAt m := rfl
theorem Mo_token_gap (x : Nat → Int32) : Model_token (Model_set_gap m x) = Model_token m := rfl
theorem Mo_error_gap (x : Nat → Int32) : Model_error (Model_set_gap m x) = Model_error m := rfl
theorem Mo_errorAt_gap (x : Nat → Int32) : Model_errorAt (Model_set_gap m x) = Model_errorAt m := rfl
theorem Mo_errorPosition_gap (x : Nat → Int32) : Model_errorPosition (Model_set_gap m x) = Model_errorPosition m := rfl
theorem Mo_nested_gap (x : Nat → Int32) : Model_nested (Model_set_gap m x) = Model_nested m := rfl
theorem Mo_codes_gap (x : Nat → Int32) : Model_codes (Model_set_gap m x) = Model_codes m := rfl
theorem Mo_stack_gap (x : Nat → Int32) : Model_stack (Model_set_gap m x) = Model_stack m := rfl
theorem Mo_codeCount_gap (x : Nat → Int32) : Model_codeCount (Model_set_gap m x) = Model_codeCount m := rfl
theorem Mo_now_gapBegin (x : Nat → Int32) : Model_now (Model_set_gapBegin m x) = Model_now m := rfl
theorem Mo_draft_gapBegin (x : Nat → Int32) : Model_draft (Model_set_gapBegin m x) = Model_draft m := rfl
theorem Mo_snapshot_gapBegin (x : Nat → Int32) : Model_snapshot (Model_set_gapBegin m x) = Model_snapshot m := rfl
theorem Mo_history_gapBegin (x : Nat → Int32) : Model_history (Model_set_gapBegin m x) = Model_history m := rfl
theorem Mo_undoCount_gapBegin (x : Nat → Int32) : Model_undoCount (Model_set_gapBegin m x) = Model_undoCount m := rfl
theorem Mo_thrown_gapBegin (x : Nat → Int32) : Model_thrown (Model_set_gapBegin m x) = Model_thrown m := rfl
theorem Mo_hasSnapshot_gapBegin (x : Nat → Int32) : Model_hasSnapshot (Model_set_gapBegin m x) = Model_hasSnapshot m := rfl
theorem Mo_joined_gapBegin (x : Nat → Int32) : Model_joined (Model_set_gapBegin m x) = Model_joined m := rfl
theorem Mo_phases_gapBegin (x : Nat → Int32) : Model_phases (Model_set_gapBegin m x) = Model_phases m := rfl
theorem Mo_firstSeen_gapBegin (x : Nat → Int32) : Model_firstSeen (Model_set_gapBegin m x) = Model_firstSeen m := rfl
theorem Mo_latestSeen_gapBegin (x : Nat → Int32) : Model_latestSeen (Model_set_gapBegin m x) = Model_latestSeen m := rfl
theorem Mo_seenCount_gapBegin (x : Nat → Int32) : Model_seenCount (Model_set_gapBegin m x) = Model_seenCount m := rfl
theorem Mo_gap_gapBegin (x : Nat → Int32) : Model_gap (Model_set_gapBegin m x) = Model_gap m := rfl
theorem Mo_gapBegin_gapBegin (x : Nat → Int32) : Model_gapBegin (Model_set_gapBegin m x) = x := rfl
theorem Mo_cycleNow_gapBegin (x : Nat → Int32) : Model_cycleNow (Model_set_gapBegin m x) = Model_cycleNow m := rfl
theorem Mo_bestPhases_gapBegin (x : Nat → Int32) : Model_bestPhases (Model_set_gapBegin m x) = Model_bestPhases m := rfl
theorem Mo_leastWorst_gapBegin (x : Nat → Int32) : Model_leastWorst (Model_set_gapBegin m x) = Model_leastWorst m := rfl
theorem Mo_leastCrossings_gapBegin (x : Nat → Int32) : Model_leastCrossings (Model_set_gapBegin m x) = Model_leastCrossings m := rfl
theorem Mo_formatted_gapBegin (x : Nat → Int32) : Model_formatted (Model_set_gapBegin m x) = Model_formatted m := rfl
theorem Mo_formattedLength_gapBegin (x : Nat → Int32) : Model_formattedLength (Model_set_gapBegin m x) = Model_formattedLength m := rfl
theorem Mo_buffer_gapBegin (x : Nat → Int32) : Model_buffer (Model_set_gapBegin m x) = Model_buffer m := rfl
theorem Mo_bufferLength_gapBegin (x : Nat → Int32) : Model_bufferLength (Model_set_gapBegin m x) = Model_bufferLength m := rfl
theorem Mo_limit_gapBegin (x : Nat → Int32) : Model_limit (Model_set_gapBegin m x) = Model_limit m := rfl
theorem Mo_next_gapBegin (x : Nat → Int32) : Model_next (Model_set_gapBegin m x) = Model_next m := rfl
theorem Mo_beginsAt_gapBegin (x : Nat → Int32) : Model_beginsAt (Model_set_gapBegin m x) = Model_beginsAt m := rfl
theorem Mo_token_gapBegin (x : Nat → Int32) : Model_token (Model_set_gapBegin m x) = Model_token m := rfl
theorem Mo_error_gapBegin (x : Nat → Int32) : Model_error (Model_set_gapBegin m x) = Model_error m := rfl
theorem Mo_errorAt_gapBegin (x : Nat → Int32) : Model_errorAt (Model_set_gapBegin m x) = Model_errorAt m := rfl
theorem Mo_errorPosition_gapBegin (x : Nat → Int32) : Model_errorPosition (Model_set_gapBegin m x) = Model_errorPosition m := rfl
theorem Mo_nested_gapBegin (x : Nat → Int32) : Model_nested (Model_set_gapBegin m x) = Model_nested m := rfl
theorem Mo_codes_gapBegin (x : Nat → Int32) : Model_codes (Model_set_gapBegin m x) = Model_codes m := rfl
theorem Mo_stack_gapBegin (x : Nat → Int32) : Model_stack (Model_set_gapBegin m x) = Model_stack m := rfl
theorem Mo_codeCount_gapBegin (x : Nat → Int32) : Model_codeCount (Model_set_gapBegin m x) = Model_codeCount m := rfl
theorem Mo_now_cycleNow (x : Int32) : Model_now (Model_set_cycleNow m x) = Model_now m := rfl
theorem Mo_draft_cycleNow (x : Int32) : Model_draft (Model_set_cycleNow m x) = Model_draft m := rfl
theorem Mo_snapshot_cycleNow (x : Int32) : Model_snapshot (Model_set_cycleNow m x) = Model_snapshot m := rfl
theorem Mo_history_cycleNow (x : Int32) : Model_history (Model_set_cycleNow m x) = Model_history m := rfl
theorem Mo_undoCount_cycleNow (x : Int32) : Model_undoCount (Model_set_cycleNow m x) = Model_undoCount m := rfl
theorem Mo_thrown_cycleNow (x : Int32) : Model_thrown (Model_set_cycleNow m x) = Model_thrown m := rfl
theorem Mo_hasSnapshot_cycleNow (x : Int32) : Model_hasSnapshot (Model_set_cycleNow m x) = Model_hasSnapshot m := rfl
theorem Mo_joined_cycleNow (x : Int32) : Model_joined (Model_set_cycleNow m x) = Model_joined m := rfl
theorem Mo_phases_cycleNow (x : Int32) : Model_phases (Model_set_cycleNow m x) = Model_phases m := rfl
theorem Mo_firstSeen_cycleNow (x : Int32) : Model_firstSeen (Model_set_cycleNow m x) = Model_firstSeen m := rfl
theorem Mo_latestSeen_cycleNow (x : Int32) : Model_latestSeen (Model_set_cycleNow m x) = Model_latestSeen m := rfl
theorem Mo_seenCount_cycleNow (x : Int32) : Model_seenCount (Model_set_cycleNow m x) = Model_seenCount m := rfl
theorem Mo_gap_cycleNow (x : Int32) : Model_gap (Model_set_cycleNow m x) = Model_gap m := rfl
theorem Mo_gapBegin_cycleNow (x : Int32) : Model_gapBegin (Model_set_cycleNow m x) = Model_gapBegin m := rfl
theorem Mo_cycleNow_cycleNow (x : Int32) : Model_cycleNow (Model_set_cycleNow m x) = x := rfl
theorem Mo_bestPhases_cycleNow (x : Int32) : Model_bestPhases (Model_set_cycleNow m x) = Model_bestPhases m := rfl
theorem Mo_leastWorst_cycleNow (x : Int32) : Model_leastWorst (Model_set_cycleNow m x) = Model_leastWorst m := rfl
theorem Mo_leastCrossings_cycleNow (x : Int32) : Model_leastCrossings (Model_set_cycleNow m x) = Model_leastCrossings m := rfl
theorem Mo_formatted_cycleNow (x : Int32) : Model_formatted (Model_set_cycleNow m x) = Model_formatted m := rfl
theorem Mo_formattedLength_cycleNow (x : Int32) : Model_formattedLength (Model_set_cycleNow m x) = Model_formattedLength m := rfl
theorem Mo_buffer_cycleNow (x : Int32) : Model_buffer (Model_set_cycleNow m x) = Model_buffer m := rfl
theorem Mo_bufferLength_cycleNow (x : Int32) : Model_bufferLength (Model_set_cycleNow m x) = Model_bufferLength m := rfl
theorem Mo_limit_cycleNow (x : Int32) : Model_limit (Model_set_cycleNow m x) = Model_limit m := rfl
theorem Mo_next_cycleNow (x : Int32) : Model_next (Model_set_cycleNow m x) = Model_next m := rfl
theorem Mo_beginsAt_cycleNow (x : Int32) : Model_beginsAt (Model_set_cycleNow m x) = Model_beginsAt m := rfl
theorem Mo_token_cycleNow (x : Int32) : Model_token (Model_set_cycleNow m x) = Model_token m := rfl
theorem Mo_error_cycleNow (x : Int32) : Model_error (Model_set_cycleNow m x) = Model_error m := rfl
theorem Mo_errorAt_cycleNow (x : Int32) : Model_errorAt (Model_set_cycleNow m x) = Model_errorAt m := rfl
theorem Mo_errorPosition_cycleNow (x : Int32) : Model_errorPosition (Model_set_cycleNow m x) = Model_errorPosition m := rfl
theorem Mo_nested_cycleNow (x : Int32) : Model_nested (Model_set_cycleNow m x) = Model_nested m := rfl
theorem Mo_codes_cycleNow (x : Int32) : Model_codes (Model_set_cycleNow m x) = Model_codes m := rfl
theorem Mo_stack_cycleNow (x : Int32) : Model_stack (Model_set_cycleNow m x) = Model_stack m := rfl
theorem Mo_codeCount_cycleNow (x : Int32) : Model_codeCount (Model_set_cycleNow m x) = Model_codeCount m := rfl
theorem Mo_now_bestPhases (x : Nat → Int32) : Model_now (Model_set_bestPhases m x) = Model_now m := rfl
theorem Mo_draft_bestPhases (x : Nat → Int32) : Model_draft (Model_set_bestPhases m x) = Model_draft m := rfl
theorem Mo_snapshot_bestPhases (x : Nat → Int32) : Model_snapshot (Model_set_bestPhases m x) = Model_snapshot m := rfl
theorem Mo_history_bestPhases (x : Nat → Int32) : Model_history (Model_set_bestPhases m x) = Model_history m := rfl
theorem Mo_undoCount_bestPhases (x : Nat → Int32) : Model_undoCount (Model_set_bestPhases m x) = Model_undoCount m := rfl
theorem Mo_thrown_bestPhases (x : Nat → Int32) : Model_thrown (Model_set_bestPhases m x) = Model_thrown m := rfl
theorem Mo_hasSnapshot_bestPhases (x : Nat → Int32) : Model_hasSnapshot (Model_set_bestPhases m x) = Model_hasSnapshot m := rfl
theorem Mo_joined_bestPhases (x : Nat → Int32) : Model_joined (Model_set_bestPhases m x) = Model_joined m := rfl
theorem Mo_phases_bestPhases (x : Nat → Int32) : Model_phases (Model_set_bestPhases m x) = Model_phases m := rfl
theorem Mo_firstSeen_bestPhases (x : Nat → Int32) : Model_firstSeen (Model_set_bestPhases m x) = Model_firstSeen m := rfl
theorem Mo_latestSeen_bestPhases (x : Nat → Int32) : Model_latestSeen (Model_set_bestPhases m x) = Model_latestSeen m := rfl
theorem Mo_seenCount_bestPhases (x : Nat → Int32) : Model_seenCount (Model_set_bestPhases m x) = Model_seenCount m := rfl
theorem Mo_gap_bestPhases (x : Nat → Int32) : Model_gap (Model_set_bestPhases m x) = Model_gap m := rfl
theorem Mo_gapBegin_bestPhases (x : Nat → Int32) : Model_gapBegin (Model_set_bestPhases m x) = Model_gapBegin m := rfl
theorem Mo_cycleNow_bestPhases (x : Nat → Int32) : Model_cycleNow (Model_set_bestPhases m x) = Model_cycleNow m := rfl
theorem Mo_bestPhases_bestPhases (x : Nat → Int32) : Model_bestPhases (Model_set_bestPhases m x) = x := rfl
theorem Mo_leastWorst_bestPhases (x : Nat → Int32) : Model_leastWorst (Model_set_bestPhases m x) = Model_leastWorst m := rfl
theorem Mo_leastCrossings_bestPhases (x : Nat → Int32) : Model_leastCrossings (Model_set_bestPhases m x) = Model_leastCrossings m := rfl
theorem Mo_formatted_bestPhases (x : Nat → Int32) : Model_formatted (Model_set_bestPhases m x) = Model_formatted m := rfl
theorem Mo_formattedLength_bestPhases (x : Nat → Int32) : Model_formattedLength (Model_set_bestPhases m x) = Model_formattedLength m := rfl
theorem Mo_buffer_bestPhases (x : Nat → Int32) : Model_buffer (Model_set_bestPhases m x) = Model_buffer m := rfl
theorem Mo_bufferLength_bestPhases (x : Nat → Int32) : Model_bufferLength (Model_set_bestPhases m x) = Model_bufferLength m := rfl
theorem Mo_limit_bestPhases (x : Nat → Int32) : Model_limit (Model_set_bestPhases m x) = Model_limit m := rfl
theorem Mo_next_bestPhases (x : Nat → Int32) : Model_next (Model_set_bestPhases m x) = Model_next m := rfl
theorem Mo_beginsAt_bestPhases (x : Nat → Int32) : Model_beginsAt (Model_set_bestPhases m x) = Model_beginsAt m := rfl
theorem Mo_token_bestPhases (x : Nat → Int32) : Model_token (Model_set_bestPhases m x) = Model_token m := rfl
theorem Mo_error_bestPhases (x : Nat → Int32) : Model_error (Model_set_bestPhases m x) = Model_error m := rfl
theorem Mo_errorAt_bestPhases (x : Nat → Int32) : Model_errorAt (Model_set_bestPhases m x) = Model_errorAt m := rfl
theorem Mo_errorPosition_bestPhases (x : Nat → Int32) : Model_errorPosition (Model_set_bestPhases m x) = Model_errorPosition m := rfl
theorem Mo_nested_bestPhases (x : Nat → Int32) : Model_nested (Model_set_bestPhases m x) = Model_nested m := rfl
theorem Mo_codes_bestPhases (x : Nat → Int32) : Model_codes (Model_set_bestPhases m x) = Model_codes m := rfl
theorem Mo_stack_bestPhases (x : Nat → Int32) : Model_stack (Model_set_bestPhases m x) = Model_stack m := rfl
theorem Mo_codeCount_bestPhases (x : Nat → Int32) : Model_codeCount (Model_set_bestPhases m x) = Model_codeCount m := rfl
theorem Mo_now_leastWorst (x : Int32) : Model_now (Model_set_leastWorst m x) = Model_now m := rfl
theorem Mo_draft_leastWorst (x : Int32) : Model_draft (Model_set_leastWorst m x) = Model_draft m := rfl
theorem Mo_snapshot_leastWorst (x : Int32) : Model_snapshot (Model_set_leastWorst m x) = Model_snapshot m := rfl
theorem Mo_history_leastWorst (x : Int32) : Model_history (Model_set_leastWorst m x) = Model_history m := rfl
theorem Mo_undoCount_leastWorst (x : Int32) : Model_undoCount (Model_set_leastWorst m x) = Model_undoCount m := rfl
theorem Mo_thrown_leastWorst (x : Int32) : Model_thrown (Model_set_leastWorst m x) = Model_thrown m := rfl
theorem Mo_hasSnapshot_leastWorst (x : Int32) : Model_hasSnapshot (Model_set_leastWorst m x) = Model_hasSnapshot m := rfl
theorem Mo_joined_leastWorst (x : Int32) : Model_joined (Model_set_leastWorst m x) = Model_joined m := rfl
theorem Mo_phases_leastWorst (x : Int32) : Model_phases (Model_set_leastWorst m x) = Model_phases m := rfl
theorem Mo_firstSeen_leastWorst (x : Int32) : Model_firstSeen (Model_set_leastWorst m x) = Model_firstSeen m := rfl
theorem Mo_latestSeen_leastWorst (x : Int32) : Model_latestSeen (Model_set_leastWorst m x) = Model_latestSeen m := rfl
theorem Mo_seenCount_leastWorst (x : Int32) : Model_seenCount (Model_set_leastWorst m x) = Model_seenCount m := rfl
theorem Mo_gap_leastWorst (x : Int32) : Model_gap (Model_set_leastWorst m x) = Model_gap m := rfl
theorem Mo_gapBegin_leastWorst (x : Int32) : Model_gapBegin (Model_set_leastWorst m x) = Model_gapBegin m := rfl
theorem Mo_cycleNow_leastWorst (x : Int32) : Model_cycleNow (Model_set_leastWorst m x) = Model_cycleNow m := rfl
theorem Mo_bestPhases_leastWorst (x : Int32) : Model_bestPhases (Model_set_leastWorst m x) = Model_bestPhases m := rfl
theorem Mo_leastWorst_leastWorst (x : Int32) : Model_leastWorst (Model_set_leastWorst m x) = x := rfl
theorem Mo_leastCrossings_leastWorst (x : Int32) : Model_leastCrossings (Model_set_leastWorst m x) = Model_leastCrossings m := rfl
theorem Mo_formatted_leastWorst (x : Int32) : Model_formatted (Model_set_leastWorst m x) = Model_formatted m := rfl
theorem Mo_formattedLength_leastWorst (x : Int32) : Model_formattedLength (Model_set_leastWorst m x) = Model_formattedLength m := rfl
theorem Mo_buffer_leastWorst (x : Int32) : Model_buffer (Model_set_leastWorst m x) = Model_buffer m := rfl
theorem Mo_bufferLength_leastWorst (x : Int32) : Model_bufferLength (Model_set_leastWorst m x) = Model_bufferLength m := rfl
theorem Mo_limit_leastWorst (x : Int32) : Model_limit (Model_set_leastWorst m x) = Model_limit m := rfl
theorem Mo_next_leastWorst (x : Int32) : Model_next (Model_set_leastWorst m x) = Model_next m := rfl
theorem Mo_beginsAt_leastWorst (x : Int32) : Model_beginsAt (Model_set_leastWorst m x) = Model_beginsAt m := rfl
theorem Mo_token_leastWorst (x : Int32) : Model_token (Model_set_leastWorst m x) = Model_token m := rfl
theorem Mo_error_leastWorst (x : Int32) : Model_error (Model_set_leastWorst m x) = Model_error m := rfl
theorem Mo_errorAt_leastWorst (x : Int32) : Model_errorAt (Model_set_leastWorst m x) = Model_errorAt m := rfl
theorem Mo_errorPosition_leastWorst (x : Int32) : Model_errorPosition (Model_set_leastWorst m x) = Model_errorPosition m := rfl
theorem Mo_nested_leastWorst (x : Int32) : Model_nested (Model_set_leastWorst m x) = Model_nested m := rfl
theorem Mo_codes_leastWorst (x : Int32) : Model_codes (Model_set_leastWorst m x) = Model_codes m := rfl
theorem Mo_stack_leastWorst (x : Int32) : Model_stack (Model_set_leastWorst m x) = Model_stack m := rfl
theorem Mo_codeCount_leastWorst (x : Int32) : Model_codeCount (Model_set_leastWorst m x) = Model_codeCount m := rfl
theorem Mo_now_leastCrossings (x : Int32) : Model_now (Model_set_leastCrossings m x) = Model_now m := rfl
theorem Mo_draft_leastCrossings (x : Int32) : Model_draft (Model_set_leastCrossings m x) = Model_draft m := rfl
theorem Mo_snapshot_leastCrossings (x : Int32) : Model_snapshot (Model_set_leastCrossings m x) = Model_snapshot m := rfl
theorem Mo_history_leastCrossings (x : Int32) : Model_history (Model_set_leastCrossings m x) = Model_history m := rfl
theorem Mo_undoCount_leastCrossings (x : Int32) : Model_undoCount (Model_set_leastCrossings m x) = Model_undoCount m := rfl
theorem Mo_thrown_leastCrossings (x : Int32) : Model_thrown (Model_set_leastCrossings m x) = Model_thrown m := rfl
theorem Mo_hasSnapshot_leastCrossings (x : Int32) : Model_hasSnapshot (Model_set_leastCrossings m x) = Model_hasSnapshot m := rfl
theorem Mo_joined_leastCrossings (x : Int32) : Model_joined (Model_set_leastCrossings m x) = Model_joined m := rfl
theorem Mo_phases_leastCrossings (x : Int32) : Model_phases (Model_set_leastCrossings m x) = Model_phases m := rfl
theorem Mo_firstSeen_leastCrossings (x : Int32) : Model_firstSeen (Model_set_leastCrossings m x) = Model_firstSeen m := rfl
theorem Mo_latestSeen_leastCrossings (x : Int32) : Model_latestSeen (Model_set_leastCrossings m x) = Model_latestSeen m := rfl
theorem Mo_seenCount_leastCrossings (x : Int32) : Model_seenCount (Model_set_leastCrossings m x) = Model_seenCount m := rfl
theorem Mo_gap_leastCrossings (x : Int32) : Model_gap (Model_set_leastCrossings m x) = Model_gap m := rfl
theorem Mo_gapBegin_leastCrossings (x : Int32) : Model_gapBegin (Model_set_leastCrossings m x) = Model_gapBegin m := rfl
theorem Mo_cycleNow_leastCrossings (x : Int32) : Model_cycleNow (Model_set_leastCrossings m x) = Model_cycleNow m := rfl
theorem Mo_bestPhases_leastCrossings (x : Int32) : Model_bestPhases (Model_set_leastCrossings m x) = Model_bestPhases m := rfl
theorem Mo_leastWorst_leastCrossings (x : Int32) : Model_leastWorst (Model_set_leastCrossings m x) = Model_leastWorst m := rfl
theorem Mo_leastCrossings_leastCrossings (x : Int32) : Model_leastCrossings (Model_set_leastCrossings m x) = x := rfl
theorem Mo_formatted_leastCrossings (x : Int32) : Model_formatted (Model_set_leastCrossings m x) = Model_formatted m := rfl
theorem Mo_formattedLength_leastCrossings (x : Int32) : Model_formattedLength (Model_set_leastCrossings m x) = Model_formattedLength m := rfl
theorem Mo_buffer_leastCrossings (x : Int32) : Model_buffer (Model_set_leastCrossings m x) = Model_buffer m := rfl
theorem Mo_bufferLength_leastCrossings (x : Int32) : Model_bufferLength (Model_set_leastCrossings m x) = Model_bufferLength m := rfl
theorem Mo_limit_leastCrossings (x : Int32) : Model_limit (Model_set_leastCrossings m x) = Model_limit m := rfl
theorem Mo_next_leastCrossings (x : Int32) : Model_next (Model_set_leastCrossings m x) = Model_next m := rfl
theorem Mo_beginsAt_leastCrossings (x : Int32) : Model_beginsAt (Model_set_leastCrossings m x) = Model_beginsAt m := rfl
theorem Mo_token_leastCrossings (x : Int32) : Model_token (Model_set_leastCrossings m x) = Model_token m := rfl
theorem Mo_error_leastCrossings (x : Int32) : Model_error (Model_set_leastCrossings m x) = Model_error m := rfl
theorem Mo_errorAt_leastCrossings (x : Int32) : Model_errorAt (Model_set_leastCrossings m x) = Model_errorAt m := rfl
theorem Mo_errorPosition_leastCrossings (x : Int32) : Model_errorPosition (Model_set_leastCrossings m x) = Model_errorPosition m := rfl
theorem Mo_nested_leastCrossings (x : Int32) : Model_nested (Model_set_leastCrossings m x) = Model_nested m := rfl
theorem Mo_codes_leastCrossings (x : Int32) : Model_codes (Model_set_leastCrossings m x) = Model_codes m := rfl
theorem Mo_stack_leastCrossings (x : Int32) : Model_stack (Model_set_leastCrossings m x) = Model_stack m := rfl
theorem Mo_codeCount_leastCrossings (x : Int32) : Model_codeCount (Model_set_leastCrossings m x) = Model_codeCount m := rfl
theorem Mo_now_formatted (x : Nat → Int32) : Model_now (Model_set_formatted m x) = Model_now m := rfl
theorem Mo_draft_formatted (x : Nat → Int32) : Model_draft (Model_set_formatted m x) = Model_draft m := rfl
theorem Mo_snapshot_formatted (x : Nat → Int32) : Model_snapshot (Model_set_formatted m x) = Model_snapshot m := rfl
theorem Mo_history_formatted (x : Nat → Int32) : Model_history (Model_set_formatted m x) = Model_history m := rfl
theorem Mo_undoCount_formatted (x : Nat → Int32) : Model_undoCount (Model_set_formatted m x) = Model_undoCount m := rfl
theorem Mo_thrown_formatted (x : Nat → Int32) : Model_thrown (Model_set_formatted m x) = Model_thrown m := rfl
theorem Mo_hasSnapshot_formatted (x : Nat → Int32) : Model_hasSnapshot (Model_set_formatted m x) = Model_hasSnapshot m := rfl
theorem Mo_joined_formatted (x : Nat → Int32) : Model_joined (Model_set_formatted m x) = Model_joined m := rfl
theorem Mo_phases_formatted (x : Nat → Int32) : Model_phases (Model_set_formatted m x) = Model_phases m := rfl
theorem Mo_firstSeen_formatted (x : Nat → Int32) : Model_firstSeen (Model_set_formatted m x) = Model_firstSeen m := rfl
theorem Mo_latestSeen_formatted (x : Nat → Int32) : Model_latestSeen (Model_set_formatted m x) = Model_latestSeen m := rfl
theorem Mo_seenCount_formatted (x : Nat → Int32) : Model_seenCount (Model_set_formatted m x) = Model_seenCount m := rfl
theorem Mo_gap_formatted (x : Nat → Int32) : Model_gap (Model_set_formatted m x) = Model_gap m := rfl
theorem Mo_gapBegin_formatted (x : Nat → Int32) : Model_gapBegin (Model_set_formatted m x) = Model_gapBegin m := rfl
theorem Mo_cycleNow_formatted (x : Nat → Int32) : Model_cycleNow (Model_set_formatted m x) = Model_cycleNow m := rfl
theorem Mo_bestPhases_formatted (x : Nat → Int32) : Model_bestPhases (Model_set_formatted m x) = Model_bestPhases m := rfl
theorem Mo_leastWorst_formatted (x : Nat → Int32) : Model_leastWorst (Model_set_formatted m x) = Model_leastWorst m := rfl
theorem Mo_leastCrossings_formatted (x : Nat → Int32) : Model_leastCrossings (Model_set_formatted m x) = Model_leastCrossings m := rfl
theorem Mo_formatted_formatted (x : Nat → Int32) : Model_formatted (Model_set_formatted m x) = x := rfl
theorem Mo_formattedLength_formatted (x : Nat → Int32) : Model_formattedLength (Model_set_formatted m x) = Model_formattedLength m := rfl
theorem Mo_buffer_formatted (x : Nat → Int32) : Model_buffer (Model_set_formatted m x) = Model_buffer m := rfl
theorem Mo_bufferLength_formatted (x : Nat → Int32) : Model_bufferLength (Model_set_formatted m x) = Model_bufferLength m := rfl
theorem Mo_limit_formatted (x : Nat → Int32) : Model_limit (Model_set_formatted m x) = Model_limit m := rfl
theorem Mo_next_formatted (x : Nat → Int32) : Model_next (Model_set_formatted m x) = Model_next m := rfl
theorem Mo_beginsAt_formatted (x : Nat → Int32) : Model_beginsAt (Model_set_formatted m x) = Model_beginsAt m := rfl
theorem Mo_token_formatted (x : Nat → Int32) : Model_token (Model_set_formatted m x) = Model_token m := rfl
theorem Mo_error_formatted (x : Nat → Int32) : Model_error (Model_set_formatted m x) = Model_error m := rfl
theorem Mo_errorAt_formatted (x : Nat → Int32) : Model_errorAt (Model_set_formatted m x) = Model_errorAt m := rfl
theorem Mo_errorPosition_formatted (x : Nat → Int32) : Model_errorPosition (Model_set_formatted m x) = Model_errorPosition m := rfl
theorem Mo_nested_formatted (x : Nat → Int32) : Model_nested (Model_set_formatted m x) = Model_nested m := rfl
theorem Mo_codes_formatted (x : Nat → Int32) : Model_codes (Model_set_formatted m x) = Model_codes m := rfl
theorem Mo_stack_formatted (x : Nat → Int32) : Model_stack (Model_set_formatted m x) = Model_stack m := rfl
theorem Mo_codeCount_formatted (x : Nat → Int32) : Model_codeCount (Model_set_formatted m x) = Model_codeCount m := rfl
theorem Mo_now_formattedLength (x : Int32) : Model_now (Model_set_formattedLength m x) = Model_now m := rfl
theorem Mo_draft_formattedLength (x : Int32) : Model_draft (Model_set_formattedLength m x) = Model_draft m := rfl
theorem Mo_snapshot_formattedLength (x : Int32) : Model_snapshot (Model_set_formattedLength m x) = Model_snapshot m := rfl
theorem Mo_history_formattedLength (x : Int32) : Model_history (Model_set_formattedLength m x) = Model_history m := rfl
theorem Mo_undoCount_formattedLength (x : Int32) : Model_undoCount (Model_set_formattedLength m x) = Model_undoCount m := rfl
theorem Mo_thrown_formattedLength (x : Int32) : Model_thrown (Model_set_formattedLength m x) = Model_thrown m := rfl
theorem Mo_hasSnapshot_formattedLength (x : Int32) : Model_hasSnapshot (Model_set_formattedLength m x) = Model_hasSnapshot m := rfl
theorem Mo_joined_formattedLength (x : Int32) : Model_joined (Model_set_formattedLength m x) = Model_joined m := rfl
theorem Mo_phases_formattedLength (x : Int32) : Model_phases (Model_set_formattedLength m x) = Model_phases m := rfl
theorem Mo_firstSeen_formattedLength (x : Int32) : Model_firstSeen (Model_set_formattedLength m x) = Model_firstSeen m := rfl
theorem Mo_latestSeen_formattedLength (x : Int32) : Model_latestSeen (Model_set_formattedLength m x) = Model_latestSeen m := rfl
theorem Mo_seenCount_formattedLength (x : Int32) : Model_seenCount (Model_set_formattedLength m x) = Model_seenCount m := rfl
theorem Mo_gap_formattedLength (x : Int32) : Model_gap (Model_set_formattedLength m x) = Model_gap m := rfl
theorem Mo_gapBegin_formattedLength (x : Int32) : Model_gapBegin (Model_set_formattedLength m x) = Model_gapBegin m := rfl
theorem Mo_cycleNow_formattedLength (x : Int32) : Model_cycleNow (Model_set_formattedLength m x) = Model_cycleNow m := rfl
theorem Mo_bestPhases_formattedLength (x : Int32) : Model_bestPhases (Model_set_formattedLength m x) = Model_bestPhases m := rfl
theorem Mo_leastWorst_formattedLength (x : Int32) : Model_leastWorst (Model_set_formattedLength m x) = Model_leastWorst m := rfl
theorem Mo_leastCrossings_formattedLength (x : Int32) : Model_leastCrossings (Model_set_formattedLength m x) = Model_leastCrossings m := rfl
theorem Mo_formatted_formattedLength (x : Int32) : Model_formatted (Model_set_formattedLength m x) = Model_formatted m := rfl
theorem Mo_formattedLength_formattedLength (x : Int32) : Model_formattedLength (Model_set_formattedLength m x) = x := rfl
theorem Mo_buffer_formattedLength (x : Int32) : Model_buffer (Model_set_formattedLength m x) = Model_buffer m := rfl
theorem Mo_bufferLength_formattedLength (x : Int32) : Model_bufferLength (Model_set_formattedLength m x) = Model_bufferLength m := rfl
theorem Mo_limit_formattedLength (x : Int32) : Model_limit (Model_set_formattedLength m x) = Model_limit m := rfl
theorem Mo_next_formattedLength (x : Int32) : Model_next (Model_set_formattedLength m x) = Model_next m := rfl
theorem Mo_beginsAt_formattedLength (x : Int32) : Model_beginsAt (Model_set_formattedLength m x) = Model_beginsAt m := rfl
theorem Mo_token_formattedLength (x : Int32) : Model_token (Model_set_formattedLength m x) = Model_token m := rfl
theorem Mo_error_formattedLength (x : Int32) : Model_error (Model_set_formattedLength m x) = Model_error m := rfl
theorem Mo_errorAt_formattedLength (x : Int32) : Model_errorAt (Model_set_formattedLength m x) = Model_errorAt m := rfl
theorem Mo_errorPosition_formattedLength (x : Int32) : Model_errorPosition (Model_set_formattedLength m x) = Model_errorPosition m := rfl
theorem Mo_nested_formattedLength (x : Int32) : Model_nested (Model_set_formattedLength m x) = Model_nested m := rfl
theorem Mo_codes_formattedLength (x : Int32) : Model_codes (Model_set_formattedLength m x) = Model_codes m := rfl
theorem Mo_stack_formattedLength (x : Int32) : Model_stack (Model_set_formattedLength m x) = Model_stack m := rfl
theorem Mo_codeCount_formattedLength (x : Int32) : Model_codeCount (Model_set_formattedLength m x) = Model_codeCount m := rfl
theorem Mo_now_buffer (x : Nat → Int32) : Model_now (Model_set_buffer m x) = Model_now m := rfl
theorem Mo_draft_buffer (x : Nat → Int32) : Model_draft (Model_set_buffer m x) = Model_draft m := rfl
theorem Mo_snapshot_buffer (x : Nat → Int32) : Model_snapshot (Model_set_buffer m x) = Model_snapshot m := rfl
theorem Mo_history_buffer (x : Nat → Int32) : Model_history (Model_set_buffer m x) = Model_history m := rfl
theorem Mo_undoCount_buffer (x : Nat → Int32) : Model_undoCount (Model_set_buffer m x) = Model_undoCount m := rfl
theorem Mo_thrown_buffer (x : Nat → Int32) : Model_thrown (Model_set_buffer m x) = Model_thrown m := rfl
theorem Mo_hasSnapshot_buffer (x : Nat → Int32) : Model_hasSnapshot (Model_set_buffer m x) = Model_hasSnapshot m := rfl
theorem Mo_joined_buffer (x : Nat → Int32) : Model_joined (Model_set_buffer m x) = Model_joined m := rfl
theorem Mo_phases_buffer (x : Nat → Int32) : Model_phases (Model_set_buffer m x) = Model_phases m := rfl
theorem Mo_firstSeen_buffer (x : Nat → Int32) : Model_firstSeen (Model_set_buffer m x) = Model_firstSeen m := rfl
theorem Mo_latestSeen_buffer (x : Nat → Int32) : Model_latestSeen (Model_set_buffer m x) = Model_latestSeen m := rfl
theorem Mo_seenCount_buffer (x : Nat → Int32) : Model_seenCount (Model_set_buffer m x) = Model_seenCount m := rfl
theorem Mo_gap_buffer (x : Nat → Int32) : Model_gap (Model_set_buffer m x) = Model_gap m := rfl
theorem Mo_gapBegin_buffer (x : Nat → Int32) : Model_gapBegin (Model_set_buffer m x) = Model_gapBegin m := rfl
theorem Mo_cycleNow_buffer (x : Nat → Int32) : Model_cycleNow (Model_set_buffer m x) = Model_cycleNow m := rfl
theorem Mo_bestPhases_buffer (x : Nat → Int32) : Model_bestPhases (Model_set_buffer m x) = Model_bestPhases m := rfl
theorem Mo_leastWorst_buffer (x : Nat → Int32) : Model_leastWorst (Model_set_buffer m x) = Model_leastWorst m := rfl
theorem Mo_leastCrossings_buffer (x : Nat → Int32) : Model_leastCrossings (Model_set_buffer m x) = Model_leastCrossings m := rfl
theorem Mo_formatted_buffer (x : Nat → Int32) : Model_formatted (Model_set_buffer m x) = Model_formatted m := rfl
theorem Mo_formattedLength_buffer (x : Nat → Int32) : Model_formattedLength (Model_set_buffer m x) = Model_formattedLength m := rfl
theorem Mo_buffer_buffer (x : Nat → Int32) : Model_buffer (Model_set_buffer m x) = x := rfl
theorem Mo_bufferLength_buffer (x : Nat → Int32) : Model_bufferLength (Model_set_buffer m x) = Model_bufferLength m := rfl
theorem Mo_limit_buffer (x : Nat → Int32) : Model_limit (Model_set_buffer m x) = Model_limit m := rfl
theorem Mo_next_buffer (x : Nat → Int32) : Model_next (Model_set_buffer m x) = Model_next m := rfl
theorem Mo_beginsAt_buffer (x : Nat → Int32) : Model_beginsAt (Model_set_buffer m x) = Model_beginsAt m := rfl
theorem Mo_token_buffer (x : Nat → Int32) : Model_token (Model_set_buffer m x) = Model_token m := rfl
theorem Mo_error_buffer (x : Nat → Int32) : Model_error (Model_set_buffer m x) = Model_error m := rfl
theorem Mo_errorAt_buffer (x : Nat → Int32) : Model_errorAt (Model_set_buffer m x) = Model_errorAt m := rfl
theorem Mo_errorPosition_buffer (x : Nat → Int32) : Model_errorPosition (Model_set_buffer m x) = Model_errorPosition m := rfl
theorem Mo_nested_buffer (x : Nat → Int32) : Model_nested (Model_set_buffer m x) = Model_nested m := rfl
theorem Mo_codes_buffer (x : Nat → Int32) : Model_codes (Model_set_buffer m x) = Model_codes m := rfl
theorem Mo_stack_buffer (x : Nat → Int32) : Model_stack (Model_set_buffer m x) = Model_stack m := rfl
theorem Mo_codeCount_buffer (x : Nat → Int32) : Model_codeCount (Model_set_buffer m x) = Model_codeCount m := rfl
theorem Mo_now_bufferLength (x : Int32) : Model_now (Model_set_bufferLength m x) = Model_now m := rfl
theorem Mo_draft_bufferLength (x : Int32) : Model_draft (Model_set_bufferLength m x) = Model_draft m := rfl
theorem Mo_snapshot_bufferLength (x : Int32) : Model_snapshot (Model_set_bufferLength m x) = Model_snapshot m := rfl
theorem Mo_history_bufferLength (x : Int32) : Model_history (Model_set_bufferLength m x) = Model_history m := rfl
theorem Mo_undoCount_bufferLength (x : Int32) : Model_undoCount (Model_set_bufferLength m x) = Model_undoCount m := rfl
theorem Mo_thrown_bufferLength (x : Int32) : Model_thrown (Model_set_bufferLength m x) = Model_thrown m := rfl
theorem Mo_hasSnapshot_bufferLength (x : Int32) : Model_hasSnapshot (Model_set_bufferLength m x) = Model_hasSnapshot m := rfl
theorem Mo_joined_bufferLength (x : Int32) : Model_joined (Model_set_bufferLength m x) = Model_joined m := rfl
theorem Mo_phases_bufferLength (x : Int32) : Model_phases (Model_set_bufferLength m x) = Model_phases m := rfl
theorem Mo_firstSeen_bufferLength (x : Int32) : Model_firstSeen (Model_set_bufferLength m x) = Model_firstSeen m := rfl
theorem Mo_latestSeen_bufferLength (x : Int32) : Model_latestSeen (Model_set_bufferLength m x) = Model_latestSeen m := rfl
theorem Mo_seenCount_bufferLength (x : Int32) : Model_seenCount (Model_set_bufferLength m x) = Model_seenCount m := rfl
theorem Mo_gap_bufferLength (x : Int32) : Model_gap (Model_set_bufferLength m x) = Model_gap m := rfl
theorem Mo_gapBegin_bufferLength (x : Int32) : Model_gapBegin (Model_set_bufferLength m x) = Model_gapBegin m := rfl
theorem Mo_cycleNow_bufferLength (x : Int32) : Model_cycleNow (Model_set_bufferLength m x) = Model_cycleNow m := rfl
theorem Mo_bestPhases_bufferLength (x : Int32) : Model_bestPhases (Model_set_bufferLength m x) = Model_bestPhases m := rfl
theorem Mo_leastWorst_bufferLength (x : Int32) : Model_leastWorst (Model_set_bufferLength m x) = Model_leastWorst m := rfl
theorem Mo_leastCrossings_bufferLength (x : Int32) : Model_leastCrossings (Model_set_bufferLength m x) = Model_leastCrossings m := rfl
theorem Mo_formatted_bufferLength (x : Int32) : Model_formatted (Model_set_bufferLength m x) = Model_formatted m := rfl
theorem Mo_formattedLength_bufferLength (x : Int32) : Model_formattedLength (Model_set_bufferLength m x) = Model_formattedLength m := rfl
theorem Mo_buffer_bufferLength (x : Int32) : Model_buffer (Model_set_bufferLength m x) = Model_buffer m := rfl
theorem Mo_bufferLength_bufferLength (x : Int32) : Model_bufferLength (Model_set_bufferLength m x) = x := rfl
theorem Mo_limit_bufferLength (x : Int32) : Model_limit (Model_set_bufferLength m x) = Model_limit m := rfl
theorem Mo_next_bufferLength (x : Int32) : Model_next (Model_set_bufferLength m x) = Model_next m := rfl
theorem Mo_beginsAt_bufferLength (x : Int32) : Model_beginsAt (Model_set_bufferLength m x) = Model_beginsAt m := rfl
theorem Mo_token_bufferLength (x : Int32) : Model_token (Model_set_bufferLength m x) = Model_token m := rfl
theorem Mo_error_bufferLength (x : Int32) : Model_error (Model_set_bufferLength m x) = Model_error m := rfl
theorem Mo_errorAt_bufferLength (x : Int32) : Model_errorAt (Model_set_bufferLength m x) = Model_errorAt m := rfl
theorem Mo_errorPosition_bufferLength (x : Int32) : Model_errorPosition (Model_set_bufferLength m x) = Model_errorPosition m := rfl
theorem Mo_nested_bufferLength (x : Int32) : Model_nested (Model_set_bufferLength m x) = Model_nested m := rfl
theorem Mo_codes_bufferLength (x : Int32) : Model_codes (Model_set_bufferLength m x) = Model_codes m := rfl
theorem Mo_stack_bufferLength (x : Int32) : Model_stack (Model_set_bufferLength m x) = Model_stack m := rfl
theorem Mo_codeCount_bufferLength (x : Int32) : Model_codeCount (Model_set_bufferLength m x) = Model_codeCount m := rfl
theorem Mo_now_limit (x : Int32) : Model_now (Model_set_limit m x) = Model_now m := rfl
theorem Mo_draft_limit (x : Int32) : Model_draft (Model_set_limit m x) = Model_draft m := rfl
theorem Mo_snapshot_limit (x : Int32) : Model_snapshot (Model_set_limit m x) = Model_snapshot m := rfl
theorem Mo_history_limit (x : Int32) : Model_history (Model_set_limit m x) = Model_history m := rfl
theorem Mo_undoCount_limit (x : Int32) : Model_undoCount (Model_set_limit m x) = Model_undoCount m := rfl
theorem Mo_thrown_limit (x : Int32) : Model_thrown (Model_set_limit m x) = Model_thrown m := rfl
theorem Mo_hasSnapshot_limit (x : Int32) : Model_hasSnapshot (Model_set_limit m x) = Model_hasSnapshot m := rfl
theorem Mo_joined_limit (x : Int32) : Model_joined (Model_set_limit m x) = Model_joined m := rfl
theorem Mo_phases_limit (x : Int32) : Model_phases (Model_set_limit m x) = Model_phases m := rfl
theorem Mo_firstSeen_limit (x : Int32) : Model_firstSeen (Model_set_limit m x) = Model_firstSeen m := rfl
theorem Mo_latestSeen_limit (x : Int32) : Model_latestSeen (Model_set_limit m x) = Model_latestSeen m := rfl
theorem Mo_seenCount_limit (x : Int32) : Model_seenCount (Model_set_limit m x) = Model_seenCount m := rfl
theorem Mo_gap_limit (x : Int32) : Model_gap (Model_set_limit m x) = Model_gap m := rfl
theorem Mo_gapBegin_limit (x : Int32) : Model_gapBegin (Model_set_limit m x) = Model_gapBegin m := rfl
theorem Mo_cycleNow_limit (x : Int32) : Model_cycleNow (Model_set_limit m x) = Model_cycleNow m := rfl
theorem Mo_bestPhases_limit (x : Int32) : Model_bestPhases (Model_set_limit m x) = Model_bestPhases m := rfl
theorem Mo_leastWorst_limit (x : Int32) : Model_leastWorst (Model_set_limit m x) = Model_leastWorst m := rfl
theorem Mo_leastCrossings_limit (x : Int32) : Model_leastCrossings (Model_set_limit m x) = Model_leastCrossings m := rfl
theorem Mo_formatted_limit (x : Int32) : Model_formatted (Model_set_limit m x) = Model_formatted m := rfl
theorem Mo_formattedLength_limit (x : Int32) : Model_formattedLength (Model_set_limit m x) = Model_formattedLength m := rfl
theorem Mo_buffer_limit (x : Int32) : Model_buffer (Model_set_limit m x) = Model_buffer m := rfl
theorem Mo_bufferLength_limit (x : Int32) : Model_bufferLength (Model_set_limit m x) = Model_bufferLength m := rfl
theorem Mo_limit_limit (x : Int32) : Model_limit (Model_set_limit m x) = x := rfl
theorem Mo_next_limit (x : Int32) : Model_next (Model_set_limit m x) = Model_next m := rfl
theorem Mo_beginsAt_limit (x : Int32) : Model_beginsAt (Model_set_limit m x) = Model_beginsAt m := rfl
theorem Mo_token_limit (x : Int32) : Model_token (Model_set_limit m x) = Model_token m := rfl
theorem Mo_error_limit (x : Int32) : Model_error (Model_set_limit m x) = Model_error m := rfl
theorem Mo_errorAt_limit (x : Int32) : Model_errorAt (Model_set_limit m x) = Model_errorAt m := rfl
theorem Mo_errorPosition_limit (x : Int32) : Model_errorPosition (Model_set_limit m x) = Model_errorPosition m := rfl
theorem Mo_nested_limit (x : Int32) : Model_nested (Model_set_limit m x) = Model_nested m := rfl
theorem Mo_codes_limit (x : Int32) : Model_codes (Model_set_limit m x) = Model_codes m := rfl
theorem Mo_stack_limit (x : Int32) : Model_stack (Model_set_limit m x) = Model_stack m := rfl
theorem Mo_codeCount_limit (x : Int32) : Model_codeCount (Model_set_limit m x) = Model_codeCount m := rfl
theorem Mo_now_next (x : Int32) : Model_now (Model_set_next m x) = Model_now m := rfl
theorem Mo_draft_next (x : Int32) : Model_draft (Model_set_next m x) = Model_draft m := rfl
theorem Mo_snapshot_next (x : Int32) : Model_snapshot (Model_set_next m x) = Model_snapshot m := rfl
theorem Mo_history_next (x : Int32) : Model_history (Model_set_next m x) = Model_history m := rfl
theorem Mo_undoCount_next (x : Int32) : Model_undoCount (Model_set_next m x) = Model_undoCount m := rfl
theorem Mo_thrown_next (x : Int32) : Model_thrown (Model_set_next m x) = Model_thrown m := rfl
theorem Mo_hasSnapshot_next (x : Int32) : Model_hasSnapshot (Model_set_next m x) = Model_hasSnapshot m := rfl
theorem Mo_joined_next (x : Int32) : Model_joined (Model_set_next m x) = Model_joined m := rfl
theorem Mo_phases_next (x : Int32) : Model_phases (Model_set_next m x) = Model_phases m := rfl
theorem Mo_firstSeen_next (x : Int32) : Model_firstSeen (Model_set_next m x) = Model_firstSeen m := rfl
theorem Mo_latestSeen_next (x : Int32) : Model_latestSeen (Model_set_next m x) = Model_latestSeen m := rfl
theorem Mo_seenCount_next (x : Int32) : Model_seenCount (Model_set_next m x) = Model_seenCount m := rfl
theorem Mo_gap_next (x : Int32) : Model_gap (Model_set_next m x) = Model_gap m := rfl
theorem Mo_gapBegin_next (x : Int32) : Model_gapBegin (Model_set_next m x) = Model_gapBegin m := rfl
theorem Mo_cycleNow_next (x : Int32) : Model_cycleNow (Model_set_next m x) = Model_cycleNow m := rfl
theorem Mo_bestPhases_next (x : Int32) : Model_bestPhases (Model_set_next m x) = Model_bestPhases m := rfl
theorem Mo_leastWorst_next (x : Int32) : Model_leastWorst (Model_set_next m x) = Model_leastWorst m := rfl
theorem Mo_leastCrossings_next (x : Int32) : Model_leastCrossings (Model_set_next m x) = Model_leastCrossings m := rfl
theorem Mo_formatted_next (x : Int32) : Model_formatted (Model_set_next m x) = Model_formatted m := rfl
theorem Mo_formattedLength_next (x : Int32) : Model_formattedLength (Model_set_next m x) = Model_formattedLength m := rfl
theorem Mo_buffer_next (x : Int32) : Model_buffer (Model_set_next m x) = Model_buffer m := rfl
theorem Mo_bufferLength_next (x : Int32) : Model_bufferLength (Model_set_next m x) = Model_bufferLength m := rfl
theorem Mo_limit_next (x : Int32) : Model_limit (Model_set_next m x) = Model_limit m := rfl
theorem Mo_next_next (x : Int32) : Model_next (Model_set_next m x) = x := rfl
theorem Mo_beginsAt_next (x : Int32) : Model_beginsAt (Model_set_next m x) = Model_beginsAt m := rfl
theorem Mo_token_next (x : Int32) : Model_token (Model_set_next m x) = Model_token m := rfl
theorem Mo_error_next (x : Int32) : Model_error (Model_set_next m x) = Model_error m := rfl
theorem Mo_errorAt_next (x : Int32) : Model_errorAt (Model_set_next m x) = Model_errorAt m := rfl
theorem Mo_errorPosition_next (x : Int32) : Model_errorPosition (Model_set_next m x) = Model_errorPosition m := rfl
theorem Mo_nested_next (x : Int32) : Model_nested (Model_set_next m x) = Model_nested m := rfl
theorem Mo_codes_next (x : Int32) : Model_codes (Model_set_next m x) = Model_codes m := rfl
theorem Mo_stack_next (x : Int32) : Model_stack (Model_set_next m x) = Model_stack m := rfl
theorem Mo_codeCount_next (x : Int32) : Model_codeCount (Model_set_next m x) = Model_codeCount m := rfl
theorem Mo_now_beginsAt (x : Int32) : Model_now (Model_set_beginsAt m x) = Model_now m := rfl
theorem Mo_draft_beginsAt (x : Int32) : Model_draft (Model_set_beginsAt m x) = Model_draft m := rfl
theorem Mo_snapshot_beginsAt (x : Int32) : Model_snapshot (Model_set_beginsAt m x) = Model_snapshot m := rfl
theorem Mo_history_beginsAt (x : Int32) : Model_history (Model_set_beginsAt m x) = Model_history m := rfl
theorem Mo_undoCount_beginsAt (x : Int32) : Model_undoCount (Model_set_beginsAt m x) = Model_undoCount m := rfl
theorem Mo_thrown_beginsAt (x : Int32) : Model_thrown (Model_set_beginsAt m x) = Model_thrown m := rfl
theorem Mo_hasSnapshot_beginsAt (x : Int32) : Model_hasSnapshot (Model_set_beginsAt m x) = Model_hasSnapshot m := rfl
theorem Mo_joined_beginsAt (x : Int32) : Model_joined (Model_set_beginsAt m x) = Model_joined m := rfl
theorem Mo_phases_beginsAt (x : Int32) : Model_phases (Model_set_beginsAt m x) = Model_phases m := rfl
theorem Mo_firstSeen_beginsAt (x : Int32) : Model_firstSeen (Model_set_beginsAt m x) = Model_firstSeen m := rfl
theorem Mo_latestSeen_beginsAt (x : Int32) : Model_latestSeen (Model_set_beginsAt m x) = Model_latestSeen m := rfl
theorem Mo_seenCount_beginsAt (x : Int32) : Model_seenCount (Model_set_beginsAt m x) = Model_seenCount m := rfl
theorem Mo_gap_beginsAt (x : Int32) : Model_gap (Model_set_beginsAt m x) = Model_gap m := rfl
theorem Mo_gapBegin_beginsAt (x : Int32) : Model_gapBegin (Model_set_beginsAt m x) = Model_gapBegin m := rfl
theorem Mo_cycleNow_beginsAt (x : Int32) : Model_cycleNow (Model_set_beginsAt m x) = Model_cycleNow m := rfl
theorem Mo_bestPhases_beginsAt (x : Int32) : Model_bestPhases (Model_set_beginsAt m x) = Model_bestPhases m := rfl
theorem Mo_leastWorst_beginsAt (x : Int32) : Model_leastWorst (Model_set_beginsAt m x) = Model_leastWorst m := rfl
theorem Mo_leastCrossings_beginsAt (x : Int32) : Model_leastCrossings (Model_set_beginsAt m x) = Model_leastCrossings m := rfl
theorem Mo_formatted_beginsAt (x : Int32) : Model_formatted (Model_set_beginsAt m x) = Model_formatted m := rfl
theorem Mo_formattedLength_beginsAt (x : Int32) : Model_formattedLength (Model_set_beginsAt m x) = Model_formattedLength m := rfl
theorem Mo_buffer_beginsAt (x : Int32) : Model_buffer (Model_set_beginsAt m x) = Model_buffer m := rfl
theorem Mo_bufferLength_beginsAt (x : Int32) : Model_bufferLength (Model_set_beginsAt m x) = Model_bufferLength m := rfl
theorem Mo_limit_beginsAt (x : Int32) : Model_limit (Model_set_beginsAt m x) = Model_limit m := rfl
theorem Mo_next_beginsAt (x : Int32) : Model_next (Model_set_beginsAt m x) = Model_next m := rfl
theorem Mo_beginsAt_beginsAt (x : Int32) : Model_beginsAt (Model_set_beginsAt m x) = x := rfl
theorem Mo_token_beginsAt (x : Int32) : Model_token (Model_set_beginsAt m x) = Model_token m := rfl
theorem Mo_error_beginsAt (x : Int32) : Model_error (Model_set_beginsAt m x) = Model_error m := rfl
theorem Mo_errorAt_beginsAt (x : Int32) : Model_errorAt (Model_set_beginsAt m x) = Model_errorAt m := rfl
theorem Mo_errorPosition_beginsAt (x : Int32) : Model_errorPosition (Model_set_beginsAt m x) = Model_errorPosition m := rfl
theorem Mo_nested_beginsAt (x : Int32) : Model_nested (Model_set_beginsAt m x) = Model_nested m := rfl
theorem Mo_codes_beginsAt (x : Int32) : Model_codes (Model_set_beginsAt m x) = Model_codes m := rfl
theorem Mo_stack_beginsAt (x : Int32) : Model_stack (Model_set_beginsAt m x) = Model_stack m := rfl
theorem Mo_codeCount_beginsAt (x : Int32) : Model_codeCount (Model_set_beginsAt m x) = Model_codeCount m := rfl
theorem Mo_now_token (x : Int32) : Model_now (Model_set_token m x) = Model_now m := rfl
theorem Mo_draft_token (x : Int32) : Model_draft (Model_set_token m x) = Model_draft m := rfl
theorem Mo_snapshot_token (x : Int32) : Model_snapshot (Model_set_token m x) = Model_snapshot m := rfl
theorem Mo_history_token (x : Int32) : Model_history (Model_set_token m x) = Model_history m := rfl
theorem Mo_undoCount_token (x : Int32) : Model_undoCount (Model_set_token m x) = Model_undoCount m := rfl
theorem Mo_thrown_token (x : Int32) : Model_thrown (Model_set_token m x) = Model_thrown m := rfl
theorem Mo_hasSnapshot_token (x : Int32) : Model_hasSnapshot (Model_set_token m x) = Model_hasSnapshot m := rfl
theorem Mo_joined_token (x : Int32) : Model_joined (Model_set_token m x) = Model_joined m := rfl
theorem Mo_phases_token (x : Int32) : Model_phases (Model_set_token m x) = Model_phases m := rfl
theorem Mo_firstSeen_token (x : Int32) : Model_firstSeen (Model_set_token m x) = Model_firstSeen m := rfl
theorem Mo_latestSeen_token (x : Int32) : Model_latestSeen (Model_set_token m x) = Model_latestSeen m := rfl
theorem Mo_seenCount_token (x : Int32) : Model_seenCount (Model_set_token m x) = Model_seenCount m := rfl
theorem Mo_gap_token (x : Int32) : Model_gap (Model_set_token m x) = Model_gap m := rfl
theorem Mo_gapBegin_token (x : Int32) : Model_gapBegin (Model_set_token m x) = Model_gapBegin m := rfl
theorem Mo_cycleNow_token (x : Int32) : Model_cycleNow (Model_set_token m x) = Model_cycleNow m := rfl
theorem Mo_bestPhases_token (x : Int32) : Model_bestPhases (Model_set_token m x) = Model_bestPhases m := rfl
theorem Mo_leastWorst_token (x : Int32) : Model_leastWorst (Model_set_token m x) = Model_leastWorst m := rfl
theorem Mo_leastCrossings_token (x : Int32) : Model_leastCrossings (Model_set_token m x) = Model_leastCrossings m := rfl
theorem Mo_formatted_token (x : Int32) : Model_formatted (Model_set_token m x) = Model_formatted m := rfl
theorem Mo_formattedLength_token (x : Int32) : Model_formattedLength (Model_set_token m x) = Model_formattedLength m := rfl
theorem Mo_buffer_token (x : Int32) : Model_buffer (Model_set_token m x) = Model_buffer m := rfl
theorem Mo_bufferLength_token (x : Int32) : Model_bufferLength (Model_set_token m x) = Model_bufferLength m := rfl
theorem Mo_limit_token (x : Int32) : Model_limit (Model_set_token m x) = Model_limit m := rfl
theorem Mo_next_token (x : Int32) : Model_next (Model_set_token m x) = Model_next m := rfl
theorem Mo_beginsAt_token (x : Int32) : Model_beginsAt (Model_set_token m x) = Model_beginsAt m := rfl
theorem Mo_token_token (x : Int32) : Model_token (Model_set_token m x) = x := rfl
theorem Mo_error_token (x : Int32) : Model_error (Model_set_token m x) = Model_error m := rfl
theorem Mo_errorAt_token (x : Int32) : Model_errorAt (Model_set_token m x) = Model_errorAt m := rfl
theorem Mo_errorPosition_token (x : Int32) : Model_errorPosition (Model_set_token m x) = Model_errorPosition m := rfl
theorem Mo_nested_token (x : Int32) : Model_nested (Model_set_token m x) = Model_nested m := rfl
theorem Mo_codes_token (x : Int32) : Model_codes (Model_set_token m x) = Model_codes m := rfl
theorem Mo_stack_token (x : Int32) : Model_stack (Model_set_token m x) = Model_stack m := rfl
theorem Mo_codeCount_token (x : Int32) : Model_codeCount (Model_set_token m x) = Model_codeCount m := rfl
theorem Mo_now_error (x : Int32) : Model_now (Model_set_error m x) = Model_now m := rfl
theorem Mo_draft_error (x : Int32) : Model_draft (Model_set_error m x) = Model_draft m := rfl
theorem Mo_snapshot_error (x : Int32) : Model_snapshot (Model_set_error m x) = Model_snapshot m := rfl
theorem Mo_history_error (x : Int32) : Model_history (Model_set_error m x) = Model_history m := rfl
theorem Mo_undoCount_error (x : Int32) : Model_undoCount (Model_set_error m x) = Model_undoCount m := rfl
theorem Mo_thrown_error (x : Int32) : Model_thrown (Model_set_error m x) = Model_thrown m := rfl
theorem Mo_hasSnapshot_error (x : Int32) : Model_hasSnapshot (Model_set_error m x) = Model_hasSnapshot m := rfl
theorem Mo_joined_error (x : Int32) : Model_joined (Model_set_error m x) = Model_joined m := rfl
theorem Mo_phases_error (x : Int32) : Model_phases (Model_set_error m x) = Model_phases m := rfl
theorem Mo_firstSeen_error (x : Int32) : Model_firstSeen (Model_set_error m x) = Model_firstSeen m := rfl
theorem Mo_latestSeen_error (x : Int32) : Model_latestSeen (Model_set_error m x) = Model_latestSeen m := rfl
theorem Mo_seenCount_error (x : Int32) : Model_seenCount (Model_set_error m x) = Model_seenCount m := rfl
theorem Mo_gap_error (x : Int32) : Model_gap (Model_set_error m x) = Model_gap m := rfl
theorem Mo_gapBegin_error (x : Int32) : Model_gapBegin (Model_set_error m x) = Model_gapBegin m := rfl
theorem Mo_cycleNow_error (x : Int32) : Model_cycleNow (Model_set_error m x) = Model_cycleNow m := rfl
theorem Mo_bestPhases_error (x : Int32) : Model_bestPhases (Model_set_error m x) = Model_bestPhases m := rfl
theorem Mo_leastWorst_error (x : Int32) : Model_leastWorst (Model_set_error m x) = Model_leastWorst m := rfl
theorem Mo_leastCrossings_error (x : Int32) : Model_leastCrossings (Model_set_error m x) = Model_leastCrossings m := rfl
theorem Mo_formatted_error (x : Int32) : Model_formatted (Model_set_error m x) = Model_formatted m := rfl
theorem Mo_formattedLength_error (x : Int32) : Model_formattedLength (Model_set_error m x) = Model_formattedLength m := rfl
theorem Mo_buffer_error (x : Int32) : Model_buffer (Model_set_error m x) = Model_buffer m := rfl
theorem Mo_bufferLength_error (x : Int32) : Model_bufferLength (Model_set_error m x) = Model_bufferLength m := rfl
theorem Mo_limit_error (x : Int32) : Model_limit (Model_set_error m x) = Model_limit m := rfl
theorem Mo_next_error (x : Int32) : Model_next (Model_set_error m x) = Model_next m := rfl
theorem Mo_beginsAt_error (x : Int32) : Model_beginsAt (Model_set_error m x) = Model_beginsAt m := rfl
theorem Mo_token_error (x : Int32) : Model_token (Model_set_error m x) = Model_token m := rfl
theorem Mo_error_error (x : Int32) : Model_error (Model_set_error m x) = x := rfl
theorem Mo_errorAt_error (x : Int32) : Model_errorAt (Model_set_error m x) = Model_errorAt m := rfl
theorem Mo_errorPosition_error (x : Int32) : Model_errorPosition (Model_set_error m x) = Model_errorPosition m := rfl
theorem Mo_nested_error (x : Int32) : Model_nested (Model_set_error m x) = Model_nested m := rfl
theorem Mo_codes_error (x : Int32) : Model_codes (Model_set_error m x) = Model_codes m := rfl
theorem Mo_stack_error (x : Int32) : Model_stack (Model_set_error m x) = Model_stack m := rfl
theorem Mo_codeCount_error (x : Int32) : Model_codeCount (Model_set_error m x) = Model_codeCount m := rfl
theorem Mo_now_errorAt (x : Int32) : Model_now (Model_set_errorAt m x) = Model_now m := rfl
theorem Mo_draft_errorAt (x : Int32) : Model_draft (Model_set_errorAt m x) = Model_draft m := rfl
theorem Mo_snapshot_errorAt (x : Int32) : Model_snapshot (Model_set_errorAt m x) = Model_snapshot m := rfl
theorem Mo_history_errorAt (x : Int32) : Model_history (Model_set_errorAt m x) = Model_history m := rfl
theorem Mo_undoCount_errorAt (x : Int32) : Model_undoCount (Model_set_errorAt m x) = Model_undoCount m := rfl
theorem Mo_thrown_errorAt (x : Int32) : Model_thrown (Model_set_errorAt m x) = Model_thrown m := rfl
theorem Mo_hasSnapshot_errorAt (x : Int32) : Model_hasSnapshot (Model_set_errorAt m x) = Model_hasSnapshot m := rfl
theorem Mo_joined_errorAt (x : Int32) : Model_joined (Model_set_errorAt m x) = Model_joined m := rfl
theorem Mo_phases_errorAt (x : Int32) : Model_phases (Model_set_errorAt m x) = Model_phases m := rfl
theorem Mo_firstSeen_errorAt (x : Int32) : Model_firstSeen (Model_set_errorAt m x) = Model_firstSeen m := rfl
theorem Mo_latestSeen_errorAt (x : Int32) : Model_latestSeen (Model_set_errorAt m x) = Model_latestSeen m := rfl
theorem Mo_seenCount_errorAt (x : Int32) : Model_seenCount (Model_set_errorAt m x) = Model_seenCount m := rfl
theorem Mo_gap_errorAt (x : Int32) : Model_gap (Model_set_errorAt m x) = Model_gap m := rfl
theorem Mo_gapBegin_errorAt (x : Int32) : Model_gapBegin (Model_set_errorAt m x) = Model_gapBegin m := rfl
theorem Mo_cycleNow_errorAt (x : Int32) : Model_cycleNow (Model_set_errorAt m x) = Model_cycleNow m := rfl
theorem Mo_bestPhases_errorAt (x : Int32) : Model_bestPhases (Model_set_errorAt m x) = Model_bestPhases m := rfl
theorem Mo_leastWorst_errorAt (x : Int32) : Model_leastWorst (Model_set_errorAt m x) = Model_leastWorst m := rfl
theorem Mo_leastCrossings_errorAt (x : Int32) : Model_leastCrossings (Model_set_errorAt m x) = Model_leastCrossings m := rfl
theorem Mo_formatted_errorAt (x : Int32) : Model_formatted (Model_set_errorAt m x) = Model_formatted m := rfl
theorem Mo_formattedLength_errorAt (x : Int32) : Model_formattedLength (Model_set_errorAt m x) = Model_formattedLength m := rfl
theorem Mo_buffer_errorAt (x : Int32) : Model_buffer (Model_set_errorAt m x) = Model_buffer m := rfl
theorem Mo_bufferLength_errorAt (x : Int32) : Model_bufferLength (Model_set_errorAt m x) = Model_bufferLength m := rfl
theorem Mo_limit_errorAt (x : Int32) : Model_limit (Model_set_errorAt m x) = Model_limit m := rfl
theorem Mo_next_errorAt (x : Int32) : Model_next (Model_set_errorAt m x) = Model_next m := rfl
theorem Mo_beginsAt_errorAt (x : Int32) : Model_beginsAt (Model_set_errorAt m x) = Model_beginsAt m := rfl
theorem Mo_token_errorAt (x : Int32) : Model_token (Model_set_errorAt m x) = Model_token m := rfl
theorem Mo_error_errorAt (x : Int32) : Model_error (Model_set_errorAt m x) = Model_error m := rfl
theorem Mo_errorAt_errorAt (x : Int32) : Model_errorAt (Model_set_errorAt m x) = x := rfl
theorem Mo_errorPosition_errorAt (x : Int32) : Model_errorPosition (Model_set_errorAt m x) = Model_errorPosition m := rfl
theorem Mo_nested_errorAt (x : Int32) : Model_nested (Model_set_errorAt m x) = Model_nested m := rfl
theorem Mo_codes_errorAt (x : Int32) : Model_codes (Model_set_errorAt m x) = Model_codes m := rfl
theorem Mo_stack_errorAt (x : Int32) : Model_stack (Model_set_errorAt m x) = Model_stack m := rfl
theorem Mo_codeCount_errorAt (x : Int32) : Model_codeCount (Model_set_errorAt m x) = Model_codeCount m := rfl
theorem Mo_now_errorPosition (x : Int32) : Model_now (Model_set_errorPosition m x) = Model_now m := rfl
theorem Mo_draft_errorPosition (x : Int32) : Model_draft (Model_set_errorPosition m x) = Model_draft m := rfl
theorem Mo_snapshot_errorPosition (x : Int32) : Model_snapshot (Model_set_errorPosition m x) = Model_snapshot m := rfl
theorem Mo_history_errorPosition (x : Int32) : Model_history (Model_set_errorPosition m x) = Model_history m := rfl
theorem Mo_undoCount_errorPosition (x : Int32) : Model_undoCount (Model_set_errorPosition m x) = Model_undoCount m := rfl
theorem Mo_thrown_errorPosition (x : Int32) : Model_thrown (Model_set_errorPosition m x) = Model_thrown m := rfl
theorem Mo_hasSnapshot_errorPosition (x : Int32) : Model_hasSnapshot (Model_set_errorPosition m x) = Model_hasSnapshot m := rfl
theorem Mo_joined_errorPosition (x : Int32) : Model_joined (Model_set_errorPosition m x) = Model_joined m := rfl
theorem Mo_phases_errorPosition (x : Int32) : Model_phases (Model_set_errorPosition m x) = Model_phases m := rfl
theorem Mo_firstSeen_errorPosition (x : Int32) : Model_firstSeen (Model_set_errorPosition m x) = Model_firstSeen m := rfl
theorem Mo_latestSeen_errorPosition (x : Int32) : Model_latestSeen (Model_set_errorPosition m x) = Model_latestSeen m := rfl
theorem Mo_seenCount_errorPosition (x : Int32) : Model_seenCount (Model_set_errorPosition m x) = Model_seenCount m := rfl
theorem Mo_gap_errorPosition (x : Int32) : Model_gap (Model_set_errorPosition m x) = Model_gap m := rfl
theorem Mo_gapBegin_errorPosition (x : Int32) : Model_gapBegin (Model_set_errorPosition m x) = Model_gapBegin m := rfl
theorem Mo_cycleNow_errorPosition (x : Int32) : Model_cycleNow (Model_set_errorPosition m x) = Model_cycleNow m := rfl
theorem Mo_bestPhases_errorPosition (x : Int32) : Model_bestPhases (Model_set_errorPosition m x) = Model_bestPhases m := rfl
theorem Mo_leastWorst_errorPosition (x : Int32) : Model_leastWorst (Model_set_errorPosition m x) = Model_leastWorst m := rfl
theorem Mo_leastCrossings_errorPosition (x : Int32) : Model_leastCrossings (Model_set_errorPosition m x) = Model_leastCrossings m := rfl
theorem Mo_formatted_errorPosition (x : Int32) : Model_formatted (Model_set_errorPosition m x) = Model_formatted m := rfl
theorem Mo_formattedLength_errorPosition (x : Int32) : Model_formattedLength (Model_set_errorPosition m x) = Model_formattedLength m := rfl
theorem Mo_buffer_errorPosition (x : Int32) : Model_buffer (Model_set_errorPosition m x) = Model_buffer m := rfl
theorem Mo_bufferLength_errorPosition (x : Int32) : Model_bufferLength (Model_set_errorPosition m x) = Model_bufferLength m := rfl
theorem Mo_limit_errorPosition (x : Int32) : Model_limit (Model_set_errorPosition m x) = Model_limit m := rfl
theorem Mo_next_errorPosition (x : Int32) : Model_next (Model_set_errorPosition m x) = Model_next m := rfl
theorem Mo_beginsAt_errorPosition (x : Int32) : Model_beginsAt (Model_set_errorPosition m x) = Model_beginsAt m := rfl
theorem Mo_token_errorPosition (x : Int32) : Model_token (Model_set_errorPosition m x) = Model_token m := rfl
theorem Mo_error_errorPosition (x : Int32) : Model_error (Model_set_errorPosition m x) = Model_error m := rfl
theorem Mo_errorAt_errorPosition (x : Int32) : Model_errorAt (Model_set_errorPosition m x) = Model_errorAt m := rfl
theorem Mo_errorPosition_errorPosition (x : Int32) : Model_errorPosition (Model_set_errorPosition m x) = x := rfl
theorem Mo_nested_errorPosition (x : Int32) : Model_nested (Model_set_errorPosition m x) = Model_nested m := rfl
theorem Mo_codes_errorPosition (x : Int32) : Model_codes (Model_set_errorPosition m x) = Model_codes m := rfl
theorem Mo_stack_errorPosition (x : Int32) : Model_stack (Model_set_errorPosition m x) = Model_stack m := rfl
theorem Mo_codeCount_errorPosition (x : Int32) : Model_codeCount (Model_set_errorPosition m x) = Model_codeCount m := rfl
theorem Mo_now_nested (x : Int32) : Model_now (Model_set_nested m x) = Model_now m := rfl
theorem Mo_draft_nested (x : Int32) : Model_draft (Model_set_nested m x) = Model_draft m := rfl
theorem Mo_snapshot_nested (x : Int32) : Model_snapshot (Model_set_nested m x) = Model_snapshot m := rfl
theorem Mo_history_nested (x : Int32) : Model_history (Model_set_nested m x) = Model_history m := rfl
theorem Mo_undoCount_nested (x : Int32) : Model_undoCount (Model_set_nested m x) = Model_undoCount m := rfl
theorem Mo_thrown_nested (x : Int32) : Model_thrown (Model_set_nested m x) = Model_thrown m := rfl
theorem Mo_hasSnapshot_nested (x : Int32) : Model_hasSnapshot (Model_set_nested m x) = Model_hasSnapshot m := rfl
theorem Mo_joined_nested (x : Int32) : Model_joined (Model_set_nested m x) = Model_joined m := rfl
theorem Mo_phases_nested (x : Int32) : Model_phases (Model_set_nested m x) = Model_phases m := rfl
theorem Mo_firstSeen_nested (x : Int32) : Model_firstSeen (Model_set_nested m x) = Model_firstSeen m := rfl
theorem Mo_latestSeen_nested (x : Int32) : Model_latestSeen (Model_set_nested m x) = Model_latestSeen m := rfl
theorem Mo_seenCount_nested (x : Int32) : Model_seenCount (Model_set_nested m x) = Model_seenCount m := rfl
theorem Mo_gap_nested (x : Int32) : Model_gap (Model_set_nested m x) = Model_gap m := rfl
theorem Mo_gapBegin_nested (x : Int32) : Model_gapBegin (Model_set_nested m x) = Model_gapBegin m := rfl
theorem Mo_cycleNow_nested (x : Int32) : Model_cycleNow (Model_set_nested m x) = Model_cycleNow m := rfl
theorem Mo_bestPhases_nested (x : Int32) : Model_bestPhases (Model_set_nested m x) = Model_bestPhases m := rfl
theorem Mo_leastWorst_nested (x : Int32) : Model_leastWorst (Model_set_nested m x) = Model_leastWorst m := rfl
theorem Mo_leastCrossings_nested (x : Int32) : Model_leastCrossings (Model_set_nested m x) = Model_leastCrossings m := rfl
theorem Mo_formatted_nested (x : Int32) : Model_formatted (Model_set_nested m x) = Model_formatted m := rfl
theorem Mo_formattedLength_nested (x : Int32) : Model_formattedLength (Model_set_nested m x) = Model_formattedLength m := rfl
theorem Mo_buffer_nested (x : Int32) : Model_buffer (Model_set_nested m x) = Model_buffer m := rfl
theorem Mo_bufferLength_nested (x : Int32) : Model_bufferLength (Model_set_nested m x) = Model_bufferLength m := rfl
theorem Mo_limit_nested (x : Int32) : Model_limit (Model_set_nested m x) = Model_limit m := rfl
theorem Mo_next_nested (x : Int32) : Model_next (Model_set_nested m x) = Model_next m := rfl
theorem Mo_beginsAt_nested (x : Int32) : Model_beginsAt (Model_set_nested m x) = Model_beginsAt m := rfl
theorem Mo_token_nested (x : Int32) : Model_token (Model_set_nested m x) = Model_token m := rfl
theorem Mo_error_nested (x : Int32) : Model_error (Model_set_nested m x) = Model_error m := rfl
theorem Mo_errorAt_nested (x : Int32) : Model_errorAt (Model_set_nested m x) = Model_errorAt m := rfl
theorem Mo_errorPosition_nested (x : Int32) : Model_errorPosition (Model_set_nested m x) = Model_errorPosition m := rfl
theorem Mo_nested_nested (x : Int32) : Model_nested (Model_set_nested m x) = x := rfl
theorem Mo_codes_nested (x : Int32) : Model_codes (Model_set_nested m x) = Model_codes m := rfl
theorem Mo_stack_nested (x : Int32) : Model_stack (Model_set_nested m x) = Model_stack m := rfl
theorem Mo_codeCount_nested (x : Int32) : Model_codeCount (Model_set_nested m x) = Model_codeCount m := rfl
theorem Mo_now_codes (x : Nat → Int32) : Model_now (Model_set_codes m x) = Model_now m := rfl
theorem Mo_draft_codes (x : Nat → Int32) : Model_draft (Model_set_codes m x) = Model_draft m := rfl
theorem Mo_snapshot_codes (x : Nat → Int32) : Model_snapshot (Model_set_codes m x) = Model_snapshot m := rfl
theorem Mo_history_codes (x : Nat → Int32) : Model_history (Model_set_codes m x) = Model_history m := rfl
theorem Mo_undoCount_codes (x : Nat → Int32) : Model_undoCount (Model_set_codes m x) = Model_undoCount m := rfl
theorem Mo_thrown_codes (x : Nat → Int32) : Model_thrown (Model_set_codes m x) = Model_thrown m := rfl
theorem Mo_hasSnapshot_codes (x : Nat → Int32) : Model_hasSnapshot (Model_set_codes m x) = Model_hasSnapshot m := rfl
theorem Mo_joined_codes (x : Nat → Int32) : Model_joined (Model_set_codes m x) = Model_joined m := rfl
theorem Mo_phases_codes (x : Nat → Int32) : Model_phases (Model_set_codes m x) = Model_phases m := rfl
theorem Mo_firstSeen_codes (x : Nat → Int32) : Model_firstSeen (Model_set_codes m x) = Model_firstSeen m := rfl
theorem Mo_latestSeen_codes (x : Nat → Int32) : Model_latestSeen (Model_set_codes m x) = Model_latestSeen m := rfl
theorem Mo_seenCount_codes (x : Nat → Int32) : Model_seenCount (Model_set_codes m x) = Model_seenCount m := rfl
theorem Mo_gap_codes (x : Nat → Int32) : Model_gap (Model_set_codes m x) = Model_gap m := rfl
theorem Mo_gapBegin_codes (x : Nat → Int32) : Model_gapBegin (Model_set_codes m x) = Model_gapBegin m := rfl
theorem Mo_cycleNow_codes (x : Nat → Int32) : Model_cycleNow (Model_set_codes m x) = Model_cycleNow m := rfl
theorem Mo_bestPhases_codes (x : Nat → Int32) : Model_bestPhases (Model_set_codes m x) = Model_bestPhases m := rfl
theorem Mo_leastWorst_codes (x : Nat → Int32) : Model_leastWorst (Model_set_codes m x) = Model_leastWorst m := rfl
theorem Mo_leastCrossings_codes (x : Nat → Int32) : Model_leastCrossings (Model_set_codes m x) = Model_leastCrossings m := rfl
theorem Mo_formatted_codes (x : Nat → Int32) : Model_formatted (Model_set_codes m x) = Model_formatted m := rfl
theorem Mo_formattedLength_codes (x : Nat → Int32) : Model_formattedLength (Model_set_codes m x) = Model_formattedLength m := rfl
theorem Mo_buffer_codes (x : Nat → Int32) : Model_buffer (Model_set_codes m x) = Model_buffer m := rfl
theorem Mo_bufferLength_codes (x : Nat → Int32) : Model_bufferLength (Model_set_codes m x) = Model_bufferLength m := rfl
theorem Mo_limit_codes (x : Nat → Int32) : Model_limit (Model_set_codes m x) = Model_limit m := rfl
theorem Mo_next_codes (x : Nat → Int32) : Model_next (Model_set_codes m x) = Model_next m := rfl
theorem Mo_beginsAt_codes (x : Nat → Int32) : Model_beginsAt (Model_set_codes m x) = Model_beginsAt m := rfl
theorem Mo_token_codes (x : Nat → Int32) : Model_token (Model_set_codes m x) = Model_token m := rfl
theorem Mo_error_codes (x : Nat → Int32) : Model_error (Model_set_codes m x) = Model_error m := rfl
theorem Mo_errorAt_codes (x : Nat → Int32) : Model_errorAt (Model_set_codes m x) = Model_errorAt m := rfl
theorem Mo_errorPosition_codes (x : Nat → Int32) : Model_errorPosition (Model_set_codes m x) = Model_errorPosition m := rfl
theorem Mo_nested_codes (x : Nat → Int32) : Model_nested (Model_set_codes m x) = Model_nested m := rfl
theorem Mo_codes_codes (x : Nat → Int32) : Model_codes (Model_set_codes m x) = x := rfl
theorem Mo_stack_codes (x : Nat → Int32) : Model_stack (Model_set_codes m x) = Model_stack m := rfl
theorem Mo_codeCount_codes (x : Nat → Int32) : Model_codeCount (Model_set_codes m x) = Model_codeCount m := rfl
theorem Mo_now_stack (x : Nat → Int64) : Model_now (Model_set_stack m x) = Model_now m := rfl
theorem Mo_draft_stack (x : Nat → Int64) : Model_draft (Model_set_stack m x) = Model_draft m := rfl
theorem Mo_snapshot_stack (x : Nat → Int64) : Model_snapshot (Model_set_stack m x) = Model_snapshot m := rfl
theorem Mo_history_stack (x : Nat → Int64) : Model_history (Model_set_stack m x) = Model_history m := rfl
theorem Mo_undoCount_stack (x : Nat → Int64) : Model_undoCount (Model_set_stack m x) = Model_undoCount m := rfl
theorem Mo_thrown_stack (x : Nat → Int64) : Model_thrown (Model_set_stack m x) = Model_thrown m := rfl
theorem Mo_hasSnapshot_stack (x : Nat → Int64) : Model_hasSnapshot (Model_set_stack m x) = Model_hasSnapshot m := rfl
theorem Mo_joined_stack (x : Nat → Int64) : Model_joined (Model_set_stack m x) = Model_joined m := rfl
theorem Mo_phases_stack (x : Nat → Int64) : Model_phases (Model_set_stack m x) = Model_phases m := rfl
theorem Mo_firstSeen_stack (x : Nat → Int64) : Model_firstSeen (Model_set_stack m x) = Model_firstSeen m := rfl
theorem Mo_latestSeen_stack (x : Nat → Int64) : Model_latestSeen (Model_set_stack m x) = Model_latestSeen m := rfl
theorem Mo_seenCount_stack (x : Nat → Int64) : Model_seenCount (Model_set_stack m x) = Model_seenCount m := rfl
theorem Mo_gap_stack (x : Nat → Int64) : Model_gap (Model_set_stack m x) = Model_gap m := rfl
theorem Mo_gapBegin_stack (x : Nat → Int64) : Model_gapBegin (Model_set_stack m x) = Model_gapBegin m := rfl
theorem Mo_cycleNow_stack (x : Nat → Int64) : Model_cycleNow (Model_set_stack m x) = Model_cycleNow m := rfl
theorem Mo_bestPhases_stack (x : Nat → Int64) : Model_bestPhases (Model_set_stack m x) = Model_bestPhases m := rfl
theorem Mo_leastWorst_stack (x : Nat → Int64) : Model_leastWorst (Model_set_stack m x) = Model_leastWorst m := rfl
theorem Mo_leastCrossings_stack (x : Nat → Int64) : Model_leastCrossings (Model_set_stack m x) = Model_leastCrossings m := rfl
theorem Mo_formatted_stack (x : Nat → Int64) : Model_formatted (Model_set_stack m x) = Model_formatted m := rfl
theorem Mo_formattedLength_stack (x : Nat → Int64) : Model_formattedLength (Model_set_stack m x) = Model_formattedLength m := rfl
theorem Mo_buffer_stack (x : Nat → Int64) : Model_buffer (Model_set_stack m x) = Model_buffer m := rfl
theorem Mo_bufferLength_stack (x : Nat → Int64) : Model_bufferLength (Model_set_stack m x) = Model_bufferLength m := rfl
theorem Mo_limit_stack (x : Nat → Int64) : Model_limit (Model_set_stack m x) = Model_limit m := rfl
theorem Mo_next_stack (x : Nat → Int64) : Model_next (Model_set_stack m x) = Model_next m := rfl
theorem Mo_beginsAt_stack (x : Nat → Int64) : Model_beginsAt (Model_set_stack m x) = Model_beginsAt m := rfl
theorem Mo_token_stack (x : Nat → Int64) : Model_token (Model_set_stack m x) = Model_token m := rfl
theorem Mo_error_stack (x : Nat → Int64) : Model_error (Model_set_stack m x) = Model_error m := rfl
theorem Mo_errorAt_stack (x : Nat → Int64) : Model_errorAt (Model_set_stack m x) = Model_errorAt m := rfl
theorem Mo_errorPosition_stack (x : Nat → Int64) : Model_errorPosition (Model_set_stack m x) = Model_errorPosition m := rfl
theorem Mo_nested_stack (x : Nat → Int64) : Model_nested (Model_set_stack m x) = Model_nested m := rfl
theorem Mo_codes_stack (x : Nat → Int64) : Model_codes (Model_set_stack m x) = Model_codes m := rfl
theorem Mo_stack_stack (x : Nat → Int64) : Model_stack (Model_set_stack m x) = x := rfl
theorem Mo_codeCount_stack (x : Nat → Int64) : Model_codeCount (Model_set_stack m x) = Model_codeCount m := rfl
theorem Mo_now_codeCount (x : Int32) : Model_now (Model_set_codeCount m x) = Model_now m := rfl
theorem Mo_draft_codeCount (x : Int32) : Model_draft (Model_set_codeCount m x) = Model_draft m := rfl
theorem Mo_snapshot_codeCount (x : Int32) : Model_snapshot (Model_set_codeCount m x) = Model_snapshot m := rfl
theorem Mo_history_codeCount (x : Int32) : Model_history (Model_set_codeCount m x) = Model_history m := rfl
theorem Mo_undoCount_codeCount (x : Int32) : Model_undoCount (Model_set_codeCount m x) = Model_undoCount m := rfl
theorem Mo_thrown_codeCount (x : Int32) : Model_thrown (Model_set_codeCount m x) = Model_thrown m := rfl
theorem Mo_hasSnapshot_codeCount (x : Int32) : Model_hasSnapshot (Model_set_codeCount m x) = Model_hasSnapshot m := rfl
theorem Mo_joined_codeCount (x : Int32) : Model_joined (Model_set_codeCount m x) = Model_joined m := rfl
theorem Mo_phases_codeCount (x : Int32) : Model_phases (Model_set_codeCount m x) = Model_phases m := rfl
theorem Mo_firstSeen_codeCount (x : Int32) : Model_firstSeen (Model_set_codeCount m x) = Model_firstSeen m := rfl
theorem Mo_latestSeen_codeCount (x : Int32) : Model_latestSeen (Model_set_codeCount m x) = Model_latestSeen m := rfl
theorem Mo_seenCount_codeCount (x : Int32) : Model_seenCount (Model_set_codeCount m x) = Model_seenCount m := rfl
theorem Mo_gap_codeCount (x : Int32) : Model_gap (Model_set_codeCount m x) = Model_gap m := rfl
theorem Mo_gapBegin_codeCount (x : Int32) : Model_gapBegin (Model_set_codeCount m x) = Model_gapBegin m := rfl
theorem Mo_cycleNow_codeCount (x : Int32) : Model_cycleNow (Model_set_codeCount m x) = Model_cycleNow m := rfl
theorem Mo_bestPhases_codeCount (x : Int32) : Model_bestPhases (Model_set_codeCount m x) = Model_bestPhases m := rfl
theorem Mo_leastWorst_codeCount (x : Int32) : Model_leastWorst (Model_set_codeCount m x) = Model_leastWorst m := rfl
theorem Mo_leastCrossings_codeCount (x : Int32) : Model_leastCrossings (Model_set_codeCount m x) = Model_leastCrossings m := rfl
theorem Mo_formatted_codeCount (x : Int32) : Model_formatted (Model_set_codeCount m x) = Model_formatted m := rfl
theorem Mo_formattedLength_codeCount (x : Int32) : Model_formattedLength (Model_set_codeCount m x) = Model_formattedLength m := rfl
theorem Mo_buffer_codeCount (x : Int32) : Model_buffer (Model_set_codeCount m x) = Model_buffer m := rfl
theorem Mo_bufferLength_codeCount (x : Int32) : Model_bufferLength (Model_set_codeCount m x) = Model_bufferLength m := rfl
theorem Mo_limit_codeCount (x : Int32) : Model_limit (Model_set_codeCount m x) = Model_limit m := rfl
theorem Mo_next_codeCount (x : Int32) : Model_next (Model_set_codeCount m x) = Model_next m := rfl
theorem Mo_beginsAt_codeCount (x : Int32) : Model_beginsAt (Model_set_codeCount m x) = Model_beginsAt m := rfl
theorem Mo_token_codeCount (x : Int32) : Model_token (Model_set_codeCount m x) = Model_token m := rfl
theorem Mo_error_codeCount (x : Int32) : Model_error (Model_set_codeCount m x) = Model_error m := rfl
theorem Mo_errorAt_codeCount (x : Int32) : Model_errorAt (Model_set_codeCount m x) = Model_errorAt m := rfl
theorem Mo_errorPosition_codeCount (x : Int32) : Model_errorPosition (Model_set_codeCount m x) = Model_errorPosition m := rfl
theorem Mo_nested_codeCount (x : Int32) : Model_nested (Model_set_codeCount m x) = Model_nested m := rfl
theorem Mo_codes_codeCount (x : Int32) : Model_codes (Model_set_codeCount m x) = Model_codes m := rfl
theorem Mo_stack_codeCount (x : Int32) : Model_stack (Model_set_codeCount m x) = Model_stack m := rfl
theorem Mo_codeCount_codeCount (x : Int32) : Model_codeCount (Model_set_codeCount m x) = x := rfl
end FIELDS
