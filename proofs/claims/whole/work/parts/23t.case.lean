section CASES19
variable {n c L : Nat} {k23 : K23} {xs : Nat → Int32} {v0 : GWV} {v1 v2 v5 v9 : HouseV} {v3 : HistV} {v4 : Nat → HouseV} {v6 v7 v10 : SightV} {v8 : BestV} {v11 : IntrV} {v12 : ToksV} {v14 : QReadV} {v15 v16 : Nat → Int32} {v17 M' : ModelV} {v19 : Nat → Int64}
/-- recording leaves the draft alone -/
theorem rec48_d {M M' : ModelV} (h : Mod_record_48 M = some M') : Model_draft M' = Model_draft M := by
  unfold Mod_record_48 at h
  cases e : Mod_copy 0 (Model_undoCount M) 172 (Model_now M) 1720 (Model_history M) with
  | none => rw [e] at h; cases h
  | some p =>
    rw [e, bind_s, nmL_e, nmL_e] at h
    rw [← Option.some.inj h, Mo_draft_undoCount, Mo_draft_history]
theorem rec11_d : ∀ (n : Nat) (x : Int32) (M M' : ModelV), Mod_record_11 n x M = some M' → Model_draft M' = Model_draft M := by
  intro n
  induction n with
  | zero => intro x M M' h; cases h
  | succ n ih =>
    intro x M M' h
    rw [Mod_record_11] at h
    by_cases c : 10 ≤ x
    · rw [if_pos c, nmL_e] at h
      rw [rec48_d h, Mo_draft_undoCount]
    · rw [if_neg c] at h
      cases e : Mod_copyS x (x - 1) 1720 (Model_history M) with
      | none => rw [e] at h; cases h
      | some p =>
        rw [e, bind_s, nmL_e, nmL_e] at h
        rw [ih _ _ _ h, Mo_draft_history]
theorem rec_d {M M' : ModelV} (h : Mod_record M = some M') : Model_draft M' = Model_draft M := by
  unfold Mod_record at h
  by_cases c : Model_undoCount M = 10
  · rw [if_pos c] at h; exact rec11_d _ _ _ _ h
  · rw [if_neg c] at h; exact rec48_d h
/-- a text was read in vain -/
theorem Inv.text (h : Inv n v0 v1 v3 v4 v5 v6 v8 v12 v17) {N M1 : ModelV} {p : Int32} {t' : ToksV} (hk : kpA N = kpR M1 p) (hM : kpA M1 = kpA v17) (ht : Toks_filled t' = 0) : Inv (n + 1) (GW_set_lastErrorPosition v0 p) v1 v3 v4 v5 v6 v8 t' N := by
  obtain ⟨Φ, Ψ, ls, b, len, a1, a2, a3, a4, a5, a6, a7, a8, a9, a10, a11, a12, a13⟩ := h
  have e1 : Model_now N = Model_now v17 := (congrArg (fun q => q.1) hk).trans (congrArg (fun q => q.1) hM)
  have e2 : Model_snapshot N = Model_snapshot v17 := (congrArg (fun q => q.2.1) hk).trans (congrArg (fun q => q.2.1) hM)
  have e3 : Model_history N = Model_history v17 := (congrArg (fun q => q.2.2.1) hk).trans (congrArg (fun q => q.2.2.1) hM)
  have e4 : Model_undoCount N = Model_undoCount v17 := (congrArg (fun q => q.2.2.2.1) hk).trans (congrArg (fun q => q.2.2.2.1) hM)
  have e5 : Model_hasSnapshot N = Model_hasSnapshot v17 := (congrArg (fun q => q.2.2.2.2.1) hk).trans (congrArg (fun q => q.2.2.2.2.1) hM)
  have e6 : Model_formatted N = Model_formatted v17 := (congrArg (fun q => q.2.2.2.2.2.1) hk).trans (congrArg (fun q => q.2.2.2.2.2.1) hM)
  have e7 : Model_formattedLength N = Model_formattedLength v17 := (congrArg (fun q => q.2.2.2.2.2.2.1) hk).trans (congrArg (fun q => q.2.2.2.2.2.2.1) hM)
  have e9 : Model_bufferLength N = 0 := congrArg (fun q => q.2.2.2.2.2.2.2.2.1) hk
  have e10 : Model_errorPosition N = p := congrArg (fun q => q.2.2.2.2.2.2.2.2.2) hk
  exact ⟨Φ, Ψ, ls, 0, len, a1, by omega, a3, by rw [e1]; exact a4, by rw [e2, e3, e4, e5]; exact a5, ⟨ht, e9, by omega, fun i hi => absurd hi (by omega)⟩, e10.symm, a8, a9, e7.trans a10, by rw [e6]; exact a11, a12, a13⟩
/-- new walks are stamped -/
theorem markW_s {v : HouseV} (hv : HOK v) {g : GWV} {ls : Nat} (hl : GW_lastStamp g = I (ls : Int)) : ∃ g' w, GW_markWalksChanged g v = some (g', w) ∧ GW_lastStamp g' = I ((ls + 1 : Nat) : Int) ∧ GW_lastErrorPosition g' = GW_lastErrorPosition g ∧ GW_formattedLength g' = GW_formattedLength g ∧ GW_formatted g' = GW_formatted g ∧ HOK w ∧ House_phasesStamp w = I ((ls + 1 : Nat) : Int) ∧ House_walksStamp w = I ((ls + 1 : Nat) : Int) ∧ ∀ m : Nat → Int32, RelM m v → RelM m w := by
  obtain ⟨g', w, e1, e2, e3, e4, e5, e6, e7, e8, e9, e10, e11⟩ := mark_s hv hl
  unfold GW_markWalksChanged
  rw [e1, bind_s]
  dsimp only
  rw [nmL_e, e2]
  obtain ⟨k1, k2, k3, k4⟩ := wstamp_ok e6 (I ((ls + 1 : Nat) : Int))
  exact ⟨g', _, rfl, e2, e3, e4, e5, k1, (Ho_phasesStamp_walksStamp _ _).trans e9, Ho_walksStamp_walksStamp _ _, fun m hm => k4 m (e11 m hm)⟩
theorem buf_k {t : ToksV} {M M' : ModelV} {b : Nat} (h : BUF t M b) (hk : kpA M' = kpA M) : BUF t M' b := by
  unfold BUF
  rw [show Model_bufferLength M' = Model_bufferLength M from congrArg (fun q => q.2.2.2.2.2.2.2.2.1) hk, show Model_buffer M' = Model_buffer M from congrArg (fun q => q.2.2.2.2.2.2.2.1) hk]
  exact h
/-- the number of a house's rooms, as the model has it -/
theorem load_fin {N : ModelV} {w : HouseV} {f : Nat → Int32} (hn : WFn w) (hr : RelM f w) : ∃ M3, Model_set_hasSnapshot (Model_set_undoCount (Model_set_now N f) 0) false = M3 ∧ Mod_rooms M3 = some (House_rooms w) ∧ RelM (Model_now M3) w ∧ Model_thrown M3 = Model_thrown N ∧ Model_history M3 = Model_history N ∧ Model_undoCount M3 = 0 ∧ Model_hasSnapshot M3 = false ∧ Model_formatted M3 = Model_formatted N ∧ Model_formattedLength M3 = Model_formattedLength N ∧ Model_bufferLength M3 = Model_bufferLength N ∧ Model_errorPosition M3 = Model_errorPosition N := by
  have e : Model_now (Model_set_hasSnapshot (Model_set_undoCount (Model_set_now N f) 0) false) = f := by rw [Mo_now_hasSnapshot, Mo_now_undoCount, Mo_now_now]
  have hr' : RelM (Model_now (Model_set_hasSnapshot (Model_set_undoCount (Model_set_now N f) 0) false)) w := by rw [e]; exact hr
  refine ⟨_, rfl, (rooms_m hr' hn).trans (by rw [← hn.1]), hr', ?_, ?_, ?_, Mo_hasSnapshot_hasSnapshot _ _, ?_, ?_, ?_, ?_⟩
  · rw [Mo_thrown_hasSnapshot, Mo_thrown_undoCount, Mo_thrown_now]
  · rw [Mo_history_hasSnapshot, Mo_history_undoCount, Mo_history_now]
  · rw [Mo_undoCount_hasSnapshot, Mo_undoCount_undoCount]
  · rw [Mo_formatted_hasSnapshot, Mo_formatted_undoCount, Mo_formatted_now]
  · rw [Mo_formattedLength_hasSnapshot, Mo_formattedLength_undoCount, Mo_formattedLength_now]
  · rw [Mo_bufferLength_hasSnapshot, Mo_bufferLength_undoCount, Mo_bufferLength_now]
  · rw [Mo_errorPosition_hasSnapshot, Mo_errorPosition_undoCount, Mo_errorPosition_now]
/-- a house is read -/
theorem load_ay (h : Inv n v0 v1 v3 v4 v5 v6 v8 v12 v17) (x : Int32) : AI v17 (GW_load x v0 v1 v2 v3 v12) (Mod_load x v17) (fun s M' => Inv (n + 1) s.1 s.2.1 s.2.2.2.1 v4 v5 v6 v8 s.2.2.2.2 M') := by
  have h0 := h
  obtain ⟨Φ, Ψ, ls, b, len, a1, a2, a3, a4, a5, a6, a7, a8, a9, a10, a11, a12, a13⟩ := h
  obtain ⟨z, rfl, z1, z2⟩ := sel32 x
  have hb : b ≤ 600 := a6.2.2.1
  have hin : Mod_inRange (I z) 0 (I (b : Int)) = some (decide (0 ≤ z ∧ z ≤ (b : Int))) := inRange_s (a := 0) z1 z2 (by omega) (by omega) (by omega) (by omega)
  have hne : GW_needRange (I z) 0 (I (b : Int)) = some (if 0 ≤ z ∧ z ≤ (b : Int) then .ok () else .error true) := needRange_s (lo := 0) z1 z2 (by omega) (by omega) (by omega) (by omega)
  unfold GW_load Mod_load
  rw [a6.1, hne, bind_s, nmL_e, Mo_bufferLength_thrown, a6.2.1, hin, bind_s]
  by_cases c : 0 ≤ z ∧ z ≤ (b : Int)
  · obtain ⟨k, rfl⟩ : ∃ d : Nat, z = (d : Int) := ⟨z.toNat, by omega⟩
    obtain ⟨cl, c1, c2⟩ := clear_m (Model_draft (Model_set_thrown v17 0))
    have kk : kp (Model_set_draft (Model_set_thrown v17 0) cl) = kp (Model_set_thrown v17 0) := kp_draft _ _
    have kD : Model_draft (Model_set_draft (Model_set_thrown v17 0) cl) = cl := Mo_draft_draft _ _
    rw [if_pos c, decide_eq_true c, bif_t, c1, bind_s, nmL_e]
    unfold exK
    dsimp only
    revert kk kD
    generalize Model_set_draft (Model_set_thrown v17 0) cl = M2
    intro kk kD
    have k1 : kpA M2 = kpA v17 := (congrArg (fun q => q.2) kk).trans (kpA_thr v17 0)
    have k2 : Model_thrown M2 = 0 := (congrArg (fun q => q.1) kk).trans (Mo_thrown_thrown v17 0)
    obtain ⟨t1, M3, f, e, kd, s1, s2, s3, s4, -⟩ := start_ss (buf_k a6 k1) (show k ≤ b by omega)
    rw [s1, bind_s, s2, bind_s]
    left
    rcases readHouse_ss s3 (by rw [s4, kD]; exact c2) v2 with ⟨er, t2, u, M4, r1, r2, r3, r4, r5⟩ | ⟨t2, u, M4, f', e', r3, r4, r5, r6, r7⟩
    · obtain ⟨N, n1, n2, n3, n4⟩ := finish_er r5
      have hkM : kp M4 = kp M2 := r5.2.1
      rw [r3, bind_s, r4, bind_s]
      dsimp only
      rw [endReading_c r5, bind_s, n1, bind_s]
      dsimp only
      rw [if_neg r5.c0, if_neg r5.c0, n4]
      exact ⟨_, (_, v1, u, v3, _), N, rfl, rfl, n3.trans ((congrArg (fun q => q.1) hkM).trans k2), h0.text n2 ((congrArg (fun q => q.2) hkM).trans k1) rfl⟩
    · obtain ⟨N, n1, n2, n3, n4, n5, -⟩ := finish_ok r5.2.2.2
      have hkM : kp M4 = kp M2 := r5.2.2.1
      have hkA : kpA M4 = kpA v17 := (congrArg (fun q => q.2) hkM).trans k1
      rw [r3, bind_s, r4, bind_s]
      dsimp only
      rw [endReading_0, bind_s, n1, bind_s]
      dsimp only
      rw [if_pos rfl, if_pos rfl]
      obtain ⟨wd, d1, d2, -⟩ := copy_m (a := 0) (b := 0) (x1 := 0) (x3 := 0) (n0 := 172) (n1 := 172) (v0 := Model_draft N) rfl rfl (by omega) (by omega) (by omega) (by omega) (Model_now N)
      have hrel : RelM wd u := rel_ext r6.1 r6.2.2.2.2.1 (fun j hj => by have := d2 j hj; rw [Nat.mul_zero, Nat.zero_add] at this; rw [this, n5]) r7
      obtain ⟨w1, y1, y2⟩ := copyFrom_s v1 u
      have hrel1 : RelM wd w1 := hc_rel y2 r6.1 r6.2.2.2.2.1 hrel
      have hl : GW_lastStamp (GW_set_lastErrorPosition v0 (-1)) = I (ls : Int) := a1
      obtain ⟨g', w, q1, q2, q3, q4, q5, q6, q7, q8, q9⟩ := markW_s (hc_ok y2 r6) hl
      obtain ⟨hf, p1, p2⟩ := forget_s a5
      obtain ⟨Φ', Ψ', j1, j2, hj⟩ := JJ.walks (ls := ls) q6 q7 q8 Φ Ψ
      obtain ⟨M5, m0, m1, m2, m3, m4, m5, m6, m7, m8, m9, m10⟩ := load_fin (N := N) q6.1 (q9 _ hrel1)
      rw [y1, bind_s, q1, bind_s, p1, bind_s, d1, bind_s, nmL_e, nmL_e, nmL_e, m0, m1, bind_s]
      refine ⟨_, (g', w, u, hf, _), M5, rfl, rfl, m3.trans (n3.trans ((congrArg (fun q => q.1) hkM).trans k2)), ?_⟩
      have e3 : Model_history N = Model_history v17 := (congrArg (fun q => q.2.2.1) n2).trans (congrArg (fun q => q.2.2.1) hkA)
      have e6 : Model_formatted N = Model_formatted v17 := (congrArg (fun q => q.2.2.2.2.2.1) n2).trans (congrArg (fun q => q.2.2.2.2.2.1) hkA)
      have e7 : Model_formattedLength N = Model_formattedLength v17 := (congrArg (fun q => q.2.2.2.2.2.2.1) n2).trans (congrArg (fun q => q.2.2.2.2.2.2.1) hkA)
      have e9 : Model_bufferLength N = 0 := congrArg (fun q => q.2.2.2.2.2.2.2.2.1) n2
      have e10 : Model_errorPosition N = -1 := congrArg (fun q => q.2.2.2.2.2.2.2.2.2) n2
      refine ⟨Φ', Ψ', ls + 1, 0, len, q2, by omega, hj, m2, ?_, ⟨rfl, m9.trans e9, by omega, fun i hi => absurd hi (by omega)⟩, ?_, a8, ?_, ?_, ?_, a12.mono (by omega) j1, a13.mono (by omega) j2⟩
      · rw [m4, m5, m6, e3]
        exact HR.mono (fun v hv => hv.mono (by omega) j1 j2) (p2 _)
      · rw [q3, m10, e10]; rfl
      · rw [q4]; exact a9
      · rw [m8, e7]; exact a10
      · rw [q5, m7, e6]; exact a11
  · obtain ⟨M', r1, r2, r3⟩ := raise_ax (M := v17) 1
    rw [if_neg c, decide_eq_false c, bif_f, r1, bind_s]
    exact Or.inr ⟨true, _, M', rfl, rfl, rfl, r2, r3⟩
theorem case_289 (h : Inv n v0 v1 v3 v4 v5 v6 v8 v12 v17) (hc : c + 6 ≤ L) (hL : L ≤ 3072) : NX n c k23 (Law_289 L xs k23 (I (c : Int)) v0 v1 v2 v3 v4 v5 v6 v7 v8 v9 v10 v11 v12 v14 v15 v16 v17 v19) := by
  have h0 := h
  unfold Law_289
  rw [gd_t (in1 hc hL)]
  unfold L_load
  rcases load_ay (v2 := v2) h0 (xs (Int32.toNatClampNeg (I (c : Int) + 1))) with ⟨a, s, M', e1, e2, e3, e4⟩ | ⟨b, x, M', eb, e1, e2, e3, e4⟩
  · rw [e1, bind_s]
    unfold exC
    dsimp only
    rw [gd_t (show inB (0 : Int32) 1 = true from rfl), nmL_e, bind_s, e2, bind_s]
    unfold Mod_thrown
    rw [bind_s]
    dsimp only
    rw [e3, if_pos rfl, if_pos rfl, gd_t (show inB (0 : Int32) 1 = true from rfl), if_pos (show lg_cmp (vp_updL v19 (Int32.toNatClampNeg 0) (Int32.toInt64 a) (Int32.toNatClampNeg 0)) (Int32.toInt64 a) = 0 by rw [updL_i]; exact lg_self _), nmL_e]
    exact ⟨s.1, s.2.1, s.2.2.1, s.2.2.2.1, v4, v5, v6, v7, v8, v9, v10, v11, s.2.2.2.2, v14, v15, v16, M', _, rfl, e4⟩
  · have eb : b = true := eb
    subst eb
    rw [e1, bind_s]
    unfold exC
    dsimp only
    rw [bif_t, bind_s, e2, bind_s]
    unfold Mod_thrown
    rw [bind_s]
    dsimp only
    rw [e3, if_pos rfl, if_neg (show ¬ (1 : Int32) = 0 by decide), nmL_e]
    exact ⟨v0, v1, v2, v3, v4, v5, v6, v7, v8, v9, v10, v11, v12, v14, v15, v16, M', _, rfl, h0.keep e4⟩
end CASES19
