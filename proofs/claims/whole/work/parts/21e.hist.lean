section HIST
theorem rel_ext {m m' : Nat → Int32} {v : HouseV} (hn : WFn v) (hw : WFG v) (h : ∀ k, k < 172 → m' k = m k) (hr : RelM m v) : RelM m' v := by
  obtain ⟨a1, a2, a3, a4, a5, a6, a7⟩ := hr
  unfold RelM
  rw [h 0 (by omega), h 1 (by omega), h 2 (by omega), h 3 (by omega)]
  refine ⟨a1, a2, a3, a4, fun r hr => ?_, fun d hd => ?_, fun g hg => ?_⟩
  · rw [h _ (by omega), h _ (by omega), h _ (by omega), h _ (by omega), h _ (by omega)]
    exact a5 r hr
  · have h20 : d < 20 := Nat.lt_of_lt_of_le hd hn.2.2.2.2.1
    rw [h _ (by omega), h _ (by omega), h _ (by omega)]
    exact a6 d hd
  · have hg4 : g < 4 := Nat.lt_of_lt_of_le hg hn.2.2.2.2.2.2.1
    have hp := hw.per g hg
    obtain ⟨b1, b2, b3⟩ := a7 g hg
    rw [h _ (by omega), h _ (by omega)]
    exact ⟨b1, b2, fun s hs => by rw [h _ (by omega)]; exact b3 s hs⟩
theorem copy_m {a b n0 n1 : Nat} {x1 x3 : Int32} {v0 : Nat → Int32} (e1 : x1 = I (a : Int)) (e3 : x3 = I (b : Int)) (ha : 172 * a + 172 ≤ n0) (hb : 172 * b + 172 ≤ n1) (h0 : n0 ≤ 1720) (h1 : n1 ≤ 1720) (v1 : Nat → Int32) : ∃ w, Mod_copy x1 x3 n0 v0 n1 v1 = some w ∧ (∀ j, j < 172 → w (172 * b + j) = v0 (172 * a + j)) ∧ ∀ j, (j < 172 * b ∨ 172 * b + 172 ≤ j) → w j = v1 j := by
  subst e1 e3
  have key : ∀ (q k n : Nat) (w : Nat → Int32), 172 = k + q → q < n → (∀ j, j < k → w (172 * b + j) = v0 (172 * a + j)) → (∀ j, (j < 172 * b ∨ 172 * b + 172 ≤ j) → w j = v1 j) → ∃ w', Mod_copy_3 (I (a : Int)) (I (b : Int)) v0 n0 n1 n (I (k : Int)) w = some w' ∧ (∀ j, j < 172 → w' (172 * b + j) = v0 (172 * a + j)) ∧ ∀ j, (j < 172 * b ∨ 172 * b + 172 ≤ j) → w' j = v1 j := by
    intro q
    induction q with
    | zero =>
      intro k n w hk hn p1 p2
      obtain ⟨n, rfl⟩ : ∃ q, n = q + 1 := ⟨n - 1, by omega⟩
      refine ⟨w, ?_, fun j hj => p1 j (by omega), p2⟩
      rw [Mod_copy_3, I172, if_pos (I_le_t (by omega) (by omega) (by omega))]
    | succ q ih =>
      intro k n w hk hn p1 p2
      obtain ⟨n, rfl⟩ : ∃ q, n = q + 1 := ⟨n - 1, by omega⟩
      rw [Mod_copy_3, I172, if_neg (I_le_f (by omega) (by omega) (by omega)), I_mul, I_add, I_mul, I_add, show (172 : Int) * (a : Int) + (k : Int) = ((172 * a + k : Nat) : Int) by omega, show (172 : Int) * (b : Int) + (k : Int) = ((172 * b + k : Nat) : Int) by omega, gd_I (by omega) (by omega) (by omega), gd_I (by omega) (by omega) (by omega), nmL_e, nmL_e, I_clamp _ (by omega), I_clamp _ (by omega), I_succ]
      refine ih (k + 1) n _ (by omega) (by omega) (fun j hj => ?_) fun j hj => ?_
      · by_cases c : j = k
        · subst c; rw [upd_i]
        · rw [upd_n (by omega)]; exact p1 j (by omega)
      · rw [upd_n (by omega)]; exact p2 j hj
  unfold Mod_copy
  exact key 172 0 FU v1 (by omega) (by unfold FU; omega) (fun j hj => absurd hj (by omega)) fun _ _ => rfl
theorem copyS_m {a : Nat} (ha : 172 * (a + 1) + 172 ≤ 1720) (h : Nat → Int32) : ∃ w, Mod_copyS (I ((a + 1 : Nat) : Int)) (I (a : Int)) 1720 h = some w ∧ (∀ j, j < 172 → w (172 * a + j) = h (172 * (a + 1) + j)) ∧ ∀ j, (j < 172 * a ∨ 172 * a + 172 ≤ j) → w j = h j := by
  have key : ∀ (q k n : Nat) (w : Nat → Int32), 172 = k + q → q < n → (∀ j, j < k → w (172 * a + j) = h (172 * (a + 1) + j)) → (∀ j, (j < 172 * a ∨ 172 * a + 172 ≤ j) → w j = h j) → ∃ w', Mod_copyS_3 (I ((a + 1 : Nat) : Int)) (I (a : Int)) 1720 n (I (k : Int)) w = some w' ∧ (∀ j, j < 172 → w' (172 * a + j) = h (172 * (a + 1) + j)) ∧ ∀ j, (j < 172 * a ∨ 172 * a + 172 ≤ j) → w' j = h j := by
    intro q
    induction q with
    | zero =>
      intro k n w hk hn p1 p2
      obtain ⟨n, rfl⟩ : ∃ q, n = q + 1 := ⟨n - 1, by omega⟩
      refine ⟨w, ?_, fun j hj => p1 j (by omega), p2⟩
      rw [Mod_copyS_3, I172, if_pos (I_le_t (by omega) (by omega) (by omega))]
    | succ q ih =>
      intro k n w hk hn p1 p2
      obtain ⟨n, rfl⟩ : ∃ q, n = q + 1 := ⟨n - 1, by omega⟩
      rw [Mod_copyS_3, I172, if_neg (I_le_f (by omega) (by omega) (by omega)), I_mul, I_add, I_mul, I_add, show (172 : Int) * ((a + 1 : Nat) : Int) + (k : Int) = ((172 * (a + 1) + k : Nat) : Int) by omega, show (172 : Int) * (a : Int) + (k : Int) = ((172 * a + k : Nat) : Int) by omega, gd_I (by omega) (by omega) (by omega), gd_I (by omega) (by omega) (by omega), nmL_e, nmL_e, I_clamp _ (by omega), I_clamp _ (by omega), I_succ]
      refine ih (k + 1) n _ (by omega) (by omega) (fun j hj => ?_) fun j hj => ?_
      · by_cases c : j = k
        · subst c; rw [upd_i]; exact p2 _ (by omega)
        · rw [upd_n (by omega)]; exact p1 j (by omega)
      · rw [upd_n (by omega)]; exact p2 j hj
  unfold Mod_copyS
  exact key 172 0 FU h (by omega) (by unfold FU; omega) (fun j hj => absurd hj (by omega)) fun _ _ => rfl
/-- what stays when the history changes -/
def kpH (M : ModelV) (H : Nat → Int32) (C : Int32) : (Nat → Int32) × (Nat → Int32) × (Nat → Int32) × Int32 × Bool × (Nat → Int32) × Int32 × (Nat → Int32) × Int32 × Int32 := (Model_now M, Model_snapshot M, H, C, Model_hasSnapshot M, Model_formatted M, Model_formattedLength M, Model_buffer M, Model_bufferLength M, Model_errorPosition M)
theorem kpH_set (M : ModelV) (H : Nat → Int32) (C : Int32) : kpA (Model_set_undoCount (Model_set_history M H) C) = kpH M H C := by
  unfold kpA kpH
  rw [Mo_now_undoCount, Mo_snapshot_undoCount, Mo_history_undoCount, Mo_undoCount_undoCount, Mo_hasSnapshot_undoCount, Mo_formatted_undoCount, Mo_formattedLength_undoCount, Mo_buffer_undoCount, Mo_bufferLength_undoCount, Mo_errorPosition_undoCount, Mo_now_history, Mo_snapshot_history, Mo_history_history, Mo_hasSnapshot_history, Mo_formatted_history, Mo_formattedLength_history, Mo_buffer_history, Mo_bufferLength_history, Mo_errorPosition_history]
theorem kpH_hist (M : ModelV) (G H : Nat → Int32) (C : Int32) : kpH (Model_set_history M G) H C = kpH M H C := by
  unfold kpH
  rw [Mo_now_history, Mo_snapshot_history, Mo_hasSnapshot_history, Mo_formatted_history, Mo_formattedLength_history, Mo_buffer_history, Mo_bufferLength_history, Mo_errorPosition_history]
theorem kpH_undo (M : ModelV) (H : Nat → Int32) (C D : Int32) : kpH (Model_set_undoCount M D) H C = kpH M H C := by
  unfold kpH
  rw [Mo_now_undoCount, Mo_snapshot_undoCount, Mo_hasSnapshot_undoCount, Mo_formatted_undoCount, Mo_formattedLength_undoCount, Mo_buffer_undoCount, Mo_bufferLength_undoCount, Mo_errorPosition_undoCount]
/-- the last step of recording -/
theorem record48_m {M : ModelV} {c : Nat} (hu : Model_undoCount M = I (c : Int)) (hc : c < 10) : ∃ M' H, Mod_record_48 M = some M' ∧ kpA M' = kpH M H (I ((c + 1 : Nat) : Int)) ∧ Model_thrown M' = Model_thrown M ∧ (∀ j, j < 172 → H (172 * c + j) = Model_now M j) ∧ ∀ j, j < 172 * c → H j = Model_history M j := by
  obtain ⟨w, e, p1, p2⟩ := copy_m (a := 0) (b := c) (n0 := 172) (n1 := 1720) (x1 := 0) (v0 := Model_now M) rfl hu (by omega) (by omega) (by omega) (by omega) (Model_history M)
  refine ⟨_, w, ?_, kpH_set M w _, ?_, fun j hj => ?_, fun j hj => p2 j (Or.inl hj)⟩
  · rw [Mod_record_48, e, bind_s, nmL_e, nmL_e, Mo_undoCount_history, hu, I_succ]
  · rw [Mo_thrown_undoCount, Mo_thrown_history]
  · rw [p1 j hj, Nat.mul_zero, Nat.zero_add]
/-- the rows go down by one -/
theorem record11_m {M : ModelV} (hu : Model_undoCount M = I ((10 : Nat) : Int)) : ∀ (q k n : Nat) (h : Nat → Int32), 10 = k + q → 1 ≤ k → q < n → (∀ j, j < 172 * (k - 1) → h j = Model_history M (172 + j)) → (∀ j, 172 * k ≤ j → h j = Model_history M j) → ∃ M' H, Mod_record_11 n (I (k : Int)) (Model_set_history M h) = some M' ∧ kpA M' = kpH M H (I ((10 : Nat) : Int)) ∧ Model_thrown M' = Model_thrown M ∧ (∀ j, j < 172 → H (172 * 9 + j) = Model_now M j) ∧ ∀ j, j < 172 * 9 → H j = Model_history M (172 + j) := by
  intro q
  induction q with
  | zero =>
    intro k n h hk h1 hn p1 p2
    obtain ⟨n, rfl⟩ : ∃ q, n = q + 1 := ⟨n - 1, by omega⟩
    obtain rfl : k = 10 := by omega
    obtain ⟨M', H, e, f, t, g1, g2⟩ := record48_m (M := Model_set_undoCount (Model_set_history M h) (I ((9 : Nat) : Int))) (c := 9) (Mo_undoCount_undoCount _ _) (by omega)
    refine ⟨M', H, ?_, ?_, ?_, ?_, ?_⟩
    · rw [Mod_record_11, I10, if_pos (I_le_t (by omega) (by omega) (by omega)), nmL_e, Mo_undoCount_history, hu, I1, I_sub]
      exact e
    · rw [f, kpH_undo, kpH_hist]
    · rw [t, Mo_thrown_undoCount, Mo_thrown_history]
    · rw [Mo_now_undoCount, Mo_now_history] at g1
      exact g1
    · rw [Mo_history_undoCount, Mo_history_history] at g2
      exact fun j hj => (g2 j hj).trans (p1 j hj)
  | succ q ih =>
    intro k n h hk h1 hn p1 p2
    obtain ⟨n, rfl⟩ : ∃ q, n = q + 1 := ⟨n - 1, by omega⟩
    obtain ⟨a, rfl⟩ : ∃ a, k = a + 1 := ⟨k - 1, by omega⟩
    obtain ⟨w, e, c1, c2⟩ := copyS_m (a := a) (by omega) h
    rw [Mod_record_11, I10, if_neg (I_le_f (by omega) (by omega) (by omega)), Mo_history_history, I1, I_sub, show ((a + 1 : Nat) : Int) - 1 = (a : Int) by omega, e, bind_s, nmL_e, nmL_e, ← I1, I_succ]
    refine ih (a + 1 + 1) n w (by omega) (by omega) (by omega) (fun j hj => ?_) fun j hj => ?_
    · by_cases c : j < 172 * a
      · rw [c2 j (Or.inl c)]; exact p1 j (by omega)
      · obtain ⟨i, rfl⟩ : ∃ i, j = 172 * a + i := ⟨j - 172 * a, by omega⟩
        rw [c1 i (by omega), p2 _ (by omega), show 172 * (a + 1) + i = 172 + (172 * a + i) by omega]
    · rw [c2 j (by omega)]; exact p2 j (by omega)
theorem record_m {M : ModelV} {c : Nat} (hu : Model_undoCount M = I (c : Int)) (hc : c ≤ 10) : ∃ M' H, Mod_record M = some M' ∧ kpA M' = kpH M H (I ((min (c + 1) 10 : Nat) : Int)) ∧ Model_thrown M' = Model_thrown M ∧ (∀ j, j < 172 → H (172 * (min (c + 1) 10 - 1) + j) = Model_now M j) ∧ ∀ j, j < 172 * (min (c + 1) 10 - 1) → H j = Model_history M (172 * (c + 1 - min (c + 1) 10) + j) := by
  unfold Mod_record
  by_cases h : c = 10
  · subst h
    have hs : Model_set_history M (Model_history M) = M := rfl
    obtain ⟨M', H, e, f, t, g1, g2⟩ := record11_m hu 9 1 FU (Model_history M) (by omega) (by omega) (by unfold FU; omega) (fun j hj => absurd hj (by omega)) fun _ _ => rfl
    rw [hs] at e
    exact ⟨M', H, by rw [hu, if_pos (show I ((10 : Nat) : Int) = (10 : Int32) from rfl)]; exact e, f, t, g1, g2⟩
  · obtain ⟨M', H, e, f, t, g1, g2⟩ := record48_m hu (show c < 10 by omega)
    refine ⟨M', H, ?_, ?_, t, ?_, ?_⟩
    · rw [hu, I10, if_neg (I_ne (by omega) (by omega) (by omega) (by omega) (by omega))]
      exact e
    · rw [f, show min (c + 1) 10 = c + 1 by omega]
    · rw [show min (c + 1) 10 - 1 = c by omega]; exact g1
    · rw [show min (c + 1) 10 - 1 = c by omega, show c + 1 - min (c + 1) 10 = 0 by omega]
      intro j hj
      rw [g2 j hj, Nat.mul_zero, Nat.zero_add]
/-- the history and the snapshot of the two -/
def HR (J : HouseV → Prop) (h : HistV) (e : Nat → HouseV) (s : HouseV) (H : Nat → Int32) (C : Int32) (sn : Nat → Int32) (hs : Bool) : Prop := ∃ n c : Nat, Hist_next h = I (n : Int) ∧ n < 10 ∧ Hist_count h = I (c : Int) ∧ c ≤ 10 ∧ C = I (c : Int) ∧ (∀ i, i < c → J (e ((n + 9 - i) % 10)) ∧ RelM (fun k => H (172 * (c - 1 - i) + k)) (e ((n + 9 - i) % 10))) ∧ Hist_saved h = hs ∧ (hs = true → J s ∧ RelM sn s)
variable {J : HouseV → Prop} {h : HistV} {e : Nat → HouseV} {s v : HouseV} {H : Nat → Int32} {C : Int32} {sn : Nat → Int32} {hs : Bool}
theorem HR.mono {J' : HouseV → Prop} (hJ : ∀ v, J v → J' v) (hh : HR J h e s H C sn hs) : HR J' h e s H C sn hs := by
  obtain ⟨n, c, a1, a2, a3, a4, a5, a6, a7, a8⟩ := hh
  exact ⟨n, c, a1, a2, a3, a4, a5, fun i hi => ⟨hJ _ (a6 i hi).1, (a6 i hi).2⟩, a7, fun t => ⟨hJ _ (a8 t).1, (a8 t).2⟩⟩
theorem updH_i {f : Nat → HouseV} {i : Nat} {x : HouseV} : updH f i x i = x := if_pos rfl
theorem updH_n {f : Nat → HouseV} {i j : Nat} {x : HouseV} (h : j ≠ i) : updH f i x j = f j := if_neg h
/-- recording -/
theorem record_s {M : ModelV} (hJ : ∀ w v, HC w v → J v → J w) (hO : ∀ v, J v → HOK v) (hh : HR J h e s (Model_history M) (Model_undoCount M) (Model_snapshot M) (Model_hasSnapshot M)) (hv : J v) (hr : RelM (Model_now M) v) : ∃ h' e' M' H' C', Hist_record h e v = some (h', e') ∧ Mod_record M = some M' ∧ kpA M' = kpH M H' C' ∧ Model_thrown M' = Model_thrown M ∧ HR J h' e' s H' C' (Model_snapshot M) (Model_hasSnapshot M) := by
  obtain ⟨n, c, a1, a2, a3, a4, a5, a6, a7, a8⟩ := hh
  obtain ⟨M', H', m1, m2, m3, m4, m5⟩ := record_m a5 a4
  obtain ⟨w, w1, w2⟩ := copyFrom_s (e n) v
  have hn := (hO v hv).1
  have hw := (hO v hv).2.2.2.2.1
  have hmin : imin (Hist_count h + 1) 10 = I ((min (c + 1) 10 : Nat) : Int) := by
    rw [a3, I_succ, I10, imin_I (by omega) (by omega) (by omega) (by omega)]
    congr 1
    omega
  have hrec : ∀ n' : Nat, n' = (n + 1) % 10 → ∃ h', Hist_record_64 v (I (n' : Int)) h (updH e n w) = some (h', updH e n w) ∧ HR J h' (updH e n w) s H' (I ((min (c + 1) 10 : Nat) : Int)) (Model_snapshot M) (Model_hasSnapshot M) := by
    intro n' hn'
    refine ⟨Hist_set_count (Hist_set_next h (I (n' : Int))) (I ((min (c + 1) 10 : Nat) : Int)), ?_, n', min (c + 1) 10, rfl, by omega, rfl, by omega, rfl, fun i hi => ?_, a7, a8⟩
    · rw [Hist_record_64, nmL_e, nmL_e, show Hist_count (Hist_set_next h (I (n' : Int))) = Hist_count h from rfl, hmin]
    · by_cases hi0 : i = 0
      · subst hi0
        rw [show (n' + 9 - 0) % 10 = n by omega, updH_i]
        refine ⟨hJ _ _ w2 hv, hc_rel w2 hn hw (rel_ext hn hw (fun k hk => ?_) hr)⟩
        exact m4 k hk
      · rw [updH_n (show (n' + 9 - i) % 10 ≠ n by omega), show (n' + 9 - i) % 10 = (n + 9 - (i - 1)) % 10 by omega]
        have hb := a6 (i - 1) (by omega)
        have ho := hO _ hb.1
        refine ⟨hb.1, rel_ext ho.1 ho.2.2.2.2.1 (fun k hk => ?_) hb.2⟩
        show H' (172 * (min (c + 1) 10 - 1 - i) + k) = Model_history M (172 * (c - 1 - (i - 1)) + k)
        rw [m5 _ (by omega)]
        congr 1
        omega
  unfold Hist_record
  rw [a1, if_neg (show ¬ I (n : Int) < 0 from I_lt_f (a := (n : Int)) (b := 0) (by omega) (by omega) (by omega)), I10, if_neg (I_le_f (by omega) (by omega) (by omega)), gd_I (by omega) (by omega) (by omega), I_clamp n (by omega), w1, bind_s, nmL_e, I_succ]
  by_cases hc : 10 ≤ n + 1
  · obtain ⟨h', r1, r2⟩ := hrec 0 (by omega)
    rw [if_pos (I_le_t (by omega) (by omega) (by omega))]
    exact ⟨h', _, M', H', _, r1, m1, m2, m3, r2⟩
  · obtain ⟨h', r1, r2⟩ := hrec (n + 1) (by omega)
    rw [if_neg (I_le_f (by omega) (by omega) (by omega))]
    exact ⟨h', _, M', H', _, r1, m1, m2, m3, r2⟩
/-- going back -/
theorem takeBack_s {M : ModelV} (hJ : ∀ w v, HC w v → J v → J w) (hO : ∀ v, J v → HOK v) (hh : HR J h e s (Model_history M) (Model_undoCount M) sn hs) : (Model_undoCount M = 0 ∧ Hist_takeBack h e v = some (false, h, v)) ∨ (Model_undoCount M ≠ 0 ∧ ∃ h' w m N, Hist_takeBack h e v = some (true, h', w) ∧ Model_undoCount M - 1 = I ((m : Nat) : Int) ∧ m < 10 ∧ Hist_count h' = I (m : Int) ∧ Mod_copy (I (m : Int)) 0 1720 (Model_history M) 172 (Model_now M) = some N ∧ J w ∧ RelM N w ∧ HR J h' e s (Model_history M) (I (m : Int)) sn hs) := by
  obtain ⟨n, c, a1, a2, a3, a4, a5, a6, a7, a8⟩ := hh
  have htb : ∀ s0 : Int32, (s0 = I (((n + 9) % 10 : Nat) : Int)) → Hist_takeBack h e v = Hist_takeBack_18 e s0 h v := by
    intro s0 h0
    unfold Hist_takeBack
    rw [a1]
    by_cases hn0 : n = 0
    · subst hn0
      rw [if_pos (show I ((0 : Nat) : Int) ≤ (0 : Int32) from I_le_t (a := 0) (b := 0) (by omega) (by omega) (by omega)), h0]
      rfl
    · rw [if_neg (show ¬ I (n : Int) ≤ (0 : Int32) from I_le_f (a := (n : Int)) (b := 0) (by omega) (by omega) (by omega)), h0, I1, I_sub, show (((n + 9) % 10 : Nat) : Int) = (n : Int) - 1 by omega]
  rw [htb _ rfl]
  by_cases hc : c = 0
  · subst hc
    refine Or.inl ⟨a5.trans Iz, ?_⟩
    rw [Hist_takeBack_18, a3, if_pos Iz]
  · obtain ⟨m, rfl⟩ : ∃ m, c = m + 1 := ⟨c - 1, by omega⟩
    right
    have hne : ∀ x : Int32, x = I ((m + 1 : Nat) : Int) → ¬ x = 0 := fun x hx => by rw [hx]; exact I_ne (a := ((m + 1 : Nat) : Int)) (b := 0) (by omega) (by omega) (by omega) (by omega) (by omega)
    refine ⟨hne _ a5, ?_⟩
    obtain ⟨w, w1, w2⟩ := copyFrom_s v (e ((n + 9) % 10))
    obtain ⟨N, n1, n2, -⟩ := copy_m (a := m) (b := 0) (n0 := 1720) (n1 := 172) (x1 := I (m : Int)) (x3 := 0) (v0 := Model_history M) rfl rfl (by omega) (by omega) (by omega) (by omega) (Model_now M)
    have hb := a6 0 (by omega)
    have ho := hO _ hb.1
    refine ⟨Hist_set_count (Hist_set_next h (I (((n + 9) % 10 : Nat) : Int))) (I (m : Int)), w, m, N, ?_, ?_, by omega, rfl, n1, hJ _ _ w2 hb.1, hc_rel w2 ho.1 ho.2.2.2.2.1 (rel_ext ho.1 ho.2.2.2.2.1 (fun k hk => ?_) hb.2), (n + 9) % 10, m, rfl, by omega, rfl, by omega, rfl, fun i hi => ?_, a7, a8⟩
    · rw [Hist_takeBack_18, if_neg (hne _ a3), I10, if_neg (I_le_f (by omega) (by omega) (by omega)), gd_I (by omega) (by omega) (by omega), I_clamp _ (by omega), w1, bind_s, nmL_e, nmL_e, show Hist_count (Hist_set_next h (I (((n + 9) % 10 : Nat) : Int))) = Hist_count h from rfl, a3, I1, I_sub, show ((m + 1 : Nat) : Int) - 1 = (m : Int) by omega]
    · rw [a5, I1, I_sub, show ((m + 1 : Nat) : Int) - 1 = (m : Int) by omega]
    · have := n2 k hk
      rw [Nat.mul_zero, Nat.zero_add] at this
      exact this
    · have hb' := a6 (i + 1) (by omega)
      rw [show ((n + 9) % 10 + 9 - i) % 10 = (n + 9 - (i + 1)) % 10 by omega, show m - 1 - i = m + 1 - 1 - (i + 1) by omega]
      exact hb'
theorem keep_s {M : ModelV} (hJ : ∀ w v, HC w v → J v → J w) (hO : ∀ v, J v → HOK v) (hh : HR J h e s H C (Model_snapshot M) hs) (hv : J v) (hr : RelM (Model_now M) v) : ∃ h' w N, Hist_keepSnapshot h s v = some (h', w) ∧ Mod_copy 0 0 172 (Model_now M) 172 (Model_snapshot M) = some N ∧ HR J h' e w H C N true := by
  obtain ⟨n, c, a1, a2, a3, a4, a5, a6, a7, a8⟩ := hh
  obtain ⟨w, w1, w2⟩ := copyFrom_s s v
  obtain ⟨N, n1, n2, -⟩ := copy_m (a := 0) (b := 0) (n0 := 172) (n1 := 172) (x1 := 0) (x3 := 0) (v0 := Model_now M) rfl rfl (by omega) (by omega) (by omega) (by omega) (Model_snapshot M)
  have ho := hO _ hv
  refine ⟨Hist_set_saved h true, w, N, ?_, n1, n, c, a1, a2, a3, a4, a5, a6, rfl, fun _ => ⟨hJ _ _ w2 hv, hc_rel w2 ho.1 ho.2.2.2.2.1 (rel_ext ho.1 ho.2.2.2.2.1 (fun k hk => ?_) hr)⟩⟩
  · rw [Hist_keepSnapshot, w1, bind_s, nmL_e]
  · have := n2 k hk
    rw [Nat.mul_zero, Nat.zero_add] at this
    exact this
theorem bring_s {M : ModelV} (hJ : ∀ w v, HC w v → J v → J w) (hO : ∀ v, J v → HOK v) (hh : HR J h e s H C (Model_snapshot M) (Model_hasSnapshot M)) : (Model_hasSnapshot M = false ∧ Hist_bringSnapshot h s v = some (false, h, v)) ∨ (Model_hasSnapshot M = true ∧ ∃ h' w N, Hist_bringSnapshot h s v = some (true, h', w) ∧ Mod_copy 0 0 172 (Model_snapshot M) 172 (Model_now M) = some N ∧ J w ∧ RelM N w ∧ HR J h' e s H 0 (Model_snapshot M) (Model_hasSnapshot M)) := by
  obtain ⟨n, c, a1, a2, a3, a4, a5, a6, a7, a8⟩ := hh
  unfold Hist_bringSnapshot
  cases hb : Model_hasSnapshot M
  · left
    refine ⟨rfl, ?_⟩
    rw [a7, hb]; rfl
  · right
    refine ⟨rfl, ?_⟩
    obtain ⟨b1, b2⟩ := a8 hb
    obtain ⟨w, w1, w2⟩ := copyFrom_s v s
    obtain ⟨N, n1, n2, -⟩ := copy_m (a := 0) (b := 0) (n0 := 172) (n1 := 172) (x1 := 0) (x3 := 0) (v0 := Model_snapshot M) rfl rfl (by omega) (by omega) (by omega) (by omega) (Model_now M)
    have ho := hO _ b1
    refine ⟨Hist_set_count h 0, w, N, ?_, n1, hJ _ _ w2 b1, hc_rel w2 ho.1 ho.2.2.2.2.1 (rel_ext ho.1 ho.2.2.2.2.1 (fun k hk => ?_) b2), n, 0, a1, a2, rfl, by omega, rfl, fun i hi => absurd hi (by omega), ?_, fun _ => ⟨b1, b2⟩⟩
    · rw [a7, hb, w1, bind_s, nmL_e]
      rfl
    · have := n2 k hk
      rw [Nat.mul_zero, Nat.zero_add] at this
      exact this
    · exact a7.trans hb
theorem forget_s (hh : HR J h e s H C sn hs) : ∃ h', Hist_forget h = some h' ∧ ∀ sn', HR J h' e s H 0 sn' false := by
  obtain ⟨n, c, a1, a2, a3, a4, a5, a6, a7, a8⟩ := hh
  refine ⟨_, rfl, fun sn' => ⟨n, 0, a1, a2, rfl, by omega, rfl, fun i hi => absurd hi (by omega), rfl, fun t => absurd t (by decide)⟩⟩
end HIST
