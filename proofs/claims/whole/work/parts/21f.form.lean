section FORM
/-- the class with its formatted bytes -/
def GF (g : GWV) (F : Nat → Int32) (L : Int32) : GWV := GW_set_formattedLength (GW_set_formatted g F) L
/-- what stays in the model when it writes -/
def kpG (M : ModelV) : Int32 × (Nat → Int32) × (Nat → Int32) × (Nat → Int32) × Int32 × Bool × (Nat → Int32) × Int32 × Int32 × (Nat → Int32) × (Nat → Int32) := (Model_thrown M, Model_now M, Model_snapshot M, Model_history M, Model_undoCount M, Model_hasSnapshot M, Model_buffer M, Model_bufferLength M, Model_errorPosition M, Model_phases M, Model_gap M)
/-- the model X with its formatted bytes -/
def MF (X Y : ModelV) (F : Nat → Int32) (L : Int32) : Prop := kpG Y = kpG X ∧ Model_formatted Y = F ∧ Model_formattedLength Y = L
def AG (F F' : Nat → Int32) (L : Nat) : Prop := ∀ i, i < L → F i = F' i
theorem AG.step {F F' : Nat → Int32} {L : Nat} (h : AG F F' L) (x : Int32) : AG (upd F L x) (upd F' L x) (L + 1) := by
  intro i hi
  by_cases c : i = L
  · subst c; rw [upd_i, upd_i]
  · rw [upd_n c, upd_n c]; exact h i (by omega)
theorem GF_GF (g : GWV) (F F' : Nat → Int32) (L L' : Int32) : GF (GF g F L) F' L' = GF g F' L' := rfl
theorem MF.now {X Y : ModelV} {F : Nat → Int32} {L : Int32} (h : MF X Y F L) : Model_now Y = Model_now X := congrArg (fun q => q.2.1) h.1
theorem MF.phases {X Y : ModelV} {F : Nat → Int32} {L : Int32} (h : MF X Y F L) : Model_phases Y = Model_phases X := congrArg (fun q => q.2.2.2.2.2.2.2.2.2.1) h.1
theorem MF.gap {X Y : ModelV} {F : Nat → Int32} {L : Int32} (h : MF X Y F L) : Model_gap Y = Model_gap X := congrArg (fun q => q.2.2.2.2.2.2.2.2.2.2) h.1
theorem MF.rel {X Y : ModelV} {F : Nat → Int32} {L : Int32} (h : MF X Y F L) {v : HouseV} (hr : RelM (Model_now X) v) : RelM (Model_now Y) v := by rw [h.now]; exact hr
theorem MF.ph {X Y : ModelV} {F : Nat → Int32} {L : Int32} (h : MF X Y F L) {v : HouseV} {q : Nat → Nat} (hr : PhM X v q) : PhM Y v q := fun g hg => by rw [h.phases]; exact hr g hg
theorem add_s {g : GWV} {F : Nat → Int32} {L : Nat} (h : L < 64) (x : Int32) : GW_addFormatted x (GF g F (I (L : Int))) = some (GF g (upd F L x) (I ((L + 1 : Nat) : Int))) := by
  have e : GW_formattedLength (GF g F (I (L : Int))) = I (L : Int) := rfl
  have e2 : GW_formatted (GF g F (I (L : Int))) = F := rfl
  unfold GW_addFormatted
  rw [e, e2, if_neg (show ¬ I (L : Int) < (0 : Int32) from I_lt_f (a := (L : Int)) (b := 0) (by omega) (by omega) (by omega)), I64, if_neg (I_le_f (by omega) (by omega) (by omega)), gd_I (by omega) (by omega) (by omega), I_clamp L (by omega), nmL_e, nmL_e]
  have e3 : GW_formattedLength (GW_set_formatted (GF g F (I (L : Int))) (upd F L x)) = I (L : Int) := rfl
  rw [e3, I_succ]
  rfl
theorem kpG_f (M : ModelV) (F : Nat → Int32) (L : Int32) : kpG (Model_set_formattedLength (Model_set_formatted M F) L) = kpG M := by
  unfold kpG
  rw [Mo_thrown_formattedLength, Mo_now_formattedLength, Mo_snapshot_formattedLength, Mo_history_formattedLength, Mo_undoCount_formattedLength, Mo_hasSnapshot_formattedLength, Mo_buffer_formattedLength, Mo_bufferLength_formattedLength, Mo_errorPosition_formattedLength, Mo_phases_formattedLength, Mo_gap_formattedLength, Mo_thrown_formatted, Mo_now_formatted, Mo_snapshot_formatted, Mo_history_formatted, Mo_undoCount_formatted, Mo_hasSnapshot_formatted, Mo_buffer_formatted, Mo_bufferLength_formatted, Mo_errorPosition_formatted, Mo_phases_formatted, Mo_gap_formatted]
theorem write_m {X Y : ModelV} {F : Nat → Int32} {L : Nat} (h : L < 110) (hY : MF X Y F (I (L : Int))) (x : Int32) : ∃ Z, Mod_write x Y = some Z ∧ MF X Z (upd F L x) (I ((L + 1 : Nat) : Int)) := by
  obtain ⟨h1, h2, h3⟩ := hY
  refine ⟨Model_set_formattedLength (Model_set_formatted Y (upd F L x)) (I ((L + 1 : Nat) : Int)), ?_, (kpG_f _ _ _).trans h1, ?_, Mo_formattedLength_formattedLength _ _⟩
  · unfold Mod_write
    rw [h2, h3, gd_I (by omega) (by omega) (by omega), I_clamp L (by omega), nmL_e, nmL_e, Mo_formattedLength_formatted, h3, I_succ]
  · rw [Mo_formatted_formattedLength, Mo_formatted_formatted]
theorem late_MF (x : Int32) {X Y : ModelV} {F : Nat → Int32} {L : Int32} (h : MF X Y F L) : Mod_isLate x Y = Mod_isLate x X := by
  unfold Mod_isLate Mod_ofRoom
  rw [h.now, h.gap]
/-- the sightings s are of the house v, if their stamp says so -/
def MS (s : SightV) (v : HouseV) : Prop := Sight_stamp s = House_phasesStamp v → SOK s v
def MSn (s0 s : SightV) (v : HouseV) : Prop := s = s0 ∨ (SOK s v ∧ Sight_stamp s = House_phasesStamp v)
theorem measured_s {s : SightV} {v : HouseV} (hn : WFn v) (hw : WFG v) (h : MS s v) (g : GWV) : ∃ s', GW_measured g v s = some s' ∧ SOK s' v ∧ Sight_stamp s' = House_phasesStamp v := by
  unfold GW_measured
  by_cases c : Sight_stamp s = House_phasesStamp v
  · exact ⟨s, by rw [if_pos c], h c, c⟩
  · obtain ⟨s', a, b, d⟩ := measure_s hn hw s
    exact ⟨s', by rw [if_neg c, a, bind_s], b, d⟩
theorem MSn.ms {s0 s : SightV} {v : HouseV} (h : MSn s0 s v) (h0 : MS s0 v) : MS s v := by
  cases h with
  | inl h => rw [h]; exact h0
  | inr h => exact fun _ => h.1
variable {v : HouseV}
theorem cnt_lt_succ {f : Nat → Nat} (x n : Nat) : cnt (fun g => decide (f g < x + 1)) n = cnt (fun g => decide (f g < x)) n + cnt (fun g => decide (f g = x)) n := by
  induction n with
  | zero => rfl
  | succ n ih =>
    rw [show cnt (fun g => decide (f g < x + 1)) (n + 1) = cnt (fun g => decide (f g < x + 1)) n + (bif decide (f n < x + 1) then 1 else 0) from rfl, show cnt (fun g => decide (f g < x)) (n + 1) = cnt (fun g => decide (f g < x)) n + (bif decide (f n < x) then 1 else 0) from rfl, show cnt (fun g => decide (f g = x)) (n + 1) = cnt (fun g => decide (f g = x)) n + (bif decide (f n = x) then 1 else 0) from rfl, ih]
    by_cases c1 : f n < x
    · rw [decide_eq_true (show f n < x + 1 by omega), decide_eq_true c1, decide_eq_false (show ¬ f n = x by omega), bif_t, bif_f]; omega
    · by_cases c2 : f n = x
      · rw [decide_eq_true (show f n < x + 1 by omega), decide_eq_false c1, decide_eq_true c2, bif_t, bif_f]; omega
      · rw [decide_eq_false (show ¬ f n < x + 1 by omega), decide_eq_false c1, decide_eq_false c2, bif_f]; omega
/-- the letters of the guards and the mark -/
theorem letters {X : ModelV} {g0 : GWV} {s0 : SightV} (hv : HOK v) (hr : RelM (Model_now X) v) (hlt : ∀ r, r < hR v → Mod_isLate (I (r : Int)) X = some (late v r)) (h0 : MS s0 v) {x : Nat} (hx : x < hR v) {p : Nat → Bool} {B : Nat} (hB : B + cnt p (hG v) + 1 ≤ 64) : ∀ (q k n1 n2 L : Nat) (F F' : Nat → Int32) (s : SightV) (Y : ModelV), hG v = k + q → q < n1 → q < n2 → L ≤ B + cnt p k → MF X Y F' (I (L : Int)) → AG F F' L → MSn s0 s v → ∃ F1 F1' s1, ∃ L1 : Nat, ∃ Y1 : ModelV, GW_addFormattedRoom_46 (I (x : Int)) v (I ((msk p (hG v) : Nat) : Int)) n1 (I (k : Int)) (GF g0 F (I (L : Int))) s = some (GF g0 F1 (I (L1 : Int)), s1) ∧ Mod_writeRoom_42 (I (x : Int)) (I ((msk p (hG v) : Nat) : Int)) n2 (I (k : Int)) Y = some Y1 ∧ MF X Y1 F1' (I (L1 : Int)) ∧ L1 ≤ B + cnt p (hG v) + 1 ∧ AG F1 F1' L1 ∧ SOK s1 v ∧ Sight_stamp s1 = House_phasesStamp v := by
  obtain ⟨hn, hd, hj, hl, hw, hs⟩ := id hv
  have hG4 : hG v ≤ 4 := hn.2.2.2.2.2.2.1
  have eG : House_guards v = I (hG v) := hn.2.2.2.2.2.1
  have hm : msk p (hG v) < 2147483648 := by
    have h1 := msk_lt p (hG v)
    have h2 : 2 ^ hG v ≤ 2 ^ 4 := Nat.pow_le_pow_right (by omega) hG4
    omega
  intro q
  induction q with
  | zero =>
    intro k n1 n2 L F F' s Y hk h1 h2 hL hY ha hs
    obtain ⟨n1, rfl⟩ : ∃ q, n1 = q + 1 := ⟨n1 - 1, by omega⟩
    obtain ⟨n2, rfl⟩ : ∃ q, n2 = q + 1 := ⟨n2 - 1, by omega⟩
    obtain rfl : k = hG v := by omega
    obtain ⟨s1, e1, e2, e3⟩ := measured_s hn hw (hs.ms h0) (GF g0 F (I (L : Int)))
    rw [GW_addFormattedRoom_46, eG, if_pos (I_le_t (by omega) (by omega) (by omega)), e1, bind_s, isLate_s hn hw hl e2 hx, bind_s, Mod_writeRoom_42, guards_m (hY.rel hr) hn, bind_s, if_pos (I_le_t (by omega) (by omega) (by omega)), late_MF _ hY, hlt x hx, bind_s]
    cases late v x
    · rw [bif_f, bif_f]
      exact ⟨F, F', s1, L, Y, rfl, rfl, hY, by omega, ha, e2, e3⟩
    · obtain ⟨Z, z1, z2⟩ := write_m (by omega) hY 33
      rw [bif_t, bif_t, add_s (by omega), z1, bind_s, bind_s]
      exact ⟨_, _, s1, L + 1, Z, rfl, rfl, z2, by omega, ha.step _, e2, e3⟩
  | succ q ih =>
    intro k n1 n2 L F F' s Y hk h1 h2 hL hY ha hs
    obtain ⟨n1, rfl⟩ : ∃ q, n1 = q + 1 := ⟨n1 - 1, by omega⟩
    obtain ⟨n2, rfl⟩ : ∃ q, n2 = q + 1 := ⟨n2 - 1, by omega⟩
    have hck : cnt p (k + 1) = cnt p k + (bif p k then 1 else 0) := rfl
    have hmono : ∀ d, cnt p k ≤ cnt p (k + d) := by
      intro d
      induction d with
      | zero => exact Nat.le_refl _
      | succ d ihd => exact Nat.le_trans ihd (Nat.le_add_right _ _)
    have hle : cnt p (k + 1) ≤ cnt p (hG v) := by
      rw [show hG v = k + 1 + q by omega, cnt_add p (k + 1)]
      exact Nat.le_add_right _ _
    rw [GW_addFormattedRoom_46, eG, if_neg (I_le_f (by omega) (by omega) (by omega)), gwhas_s hm (by omega), bind_s, Mod_writeRoom_42, guards_m (hY.rel hr) hn, bind_s, if_neg (I_le_f (by omega) (by omega) (by omega)), modhas_s hm (by omega), bind_s, msk_bit, decide_eq_true (show k < hG v by omega), Bool.true_and]
    cases hp : p k
    · rw [hp, bif_f] at hck
      rw [bif_f, bif_f, nmL_e, nmL_e, I_succ]
      exact ih (k + 1) n1 n2 L F F' s Y (by omega) (by omega) (by omega) (by omega) hY ha hs
    · rw [hp, bif_t] at hck
      obtain ⟨Z, z1, z2⟩ := write_m (by omega) hY (97 + I (k : Int))
      rw [bif_t, bif_t, add_s (by omega), z1, bind_s, bind_s, nmL_e, nmL_e, I_succ]
      exact ih (k + 1) n1 n2 (L + 1) _ _ s Z (by omega) (by omega) (by omega) (by omega) z2 (ha.step _) hs
/-- one room -/
theorem room17 {X : ModelV} {g0 : GWV} {s0 s : SightV} (hv : HOK v) (hr : RelM (Model_now X) v) (hp : PhM X v (hF v)) (hlt : ∀ r, r < hR v → Mod_isLate (I (r : Int)) X = some (late v r)) (h0 : MS s0 v) {x L : Nat} (hx : x < hR v) (hL : L + 1 + cnt (fun g => decide (place v g (hM v) = x)) (hG v) + 1 ≤ 64) {F F' : Nat → Int32} {Y : ModelV} (hY : MF X Y F' (I (L : Int))) (ha : AG F F' L) (hs : MSn s0 s v) : ∃ F1 F1' s1, ∃ L1 : Nat, ∃ Y1 : ModelV, GW_addFormattedRoom_17 (I (x : Int)) v (GF g0 F (I (L : Int))) s = some (GF g0 F1 (I (L1 : Int)), s1) ∧ Mod_writeRoom_17 (I (x : Int)) Y = some Y1 ∧ MF X Y1 F1' (I (L1 : Int)) ∧ L1 ≤ L + 1 + cnt (fun g => decide (place v g (hM v) = x)) (hG v) + 1 ∧ AG F1 F1' L1 ∧ SOK s1 v ∧ Sight_stamp s1 = House_phasesStamp v := by
  obtain ⟨hn, hd, hj, hl, hw, hs'⟩ := id hv
  have hR12 : hR v ≤ 12 := hn.2.2.1
  have hG4 : hG v ≤ 4 := hn.2.2.2.2.2.2.1
  have hM9 : hM v ≤ 99999 := hn.2.2.2.2.2.2.2.2.1
  have eM : House_minute v = I (hM v : Int) := hn.2.2.2.2.2.2.2.1
  have e3 : ∀ (Y : ModelV), RelM (Model_now Y) v → Model_now Y (Int32.toNatClampNeg 3) = I (hM v : Int) := fun Y hY => hY.2.2.2.1.trans eM
  obtain ⟨Z, z1, z2⟩ := write_m (by omega) hY (48 + (I (x : Int) - I (x : Int) / 10 * 10))
  unfold GW_addFormattedRoom_17 Mod_writeRoom_17
  rw [gd_t (show nz (10 : Int32) = true from rfl), gd_t (show nz (10 : Int32) = true from rfl), add_s (by omega), z1, bind_s, bind_s, eM, guardsAt_s hn hw (by omega) (by omega), bind_s, gd_t (show inB (3 : Int32) 172 = true from rfl), e3 _ (z2.rel hr), guardsAt_m (z2.rel hr) hn hw (ph := hF v) (z2.ph hp) (by omega) (by omega), bind_s]
  exact letters hv hr hlt h0 hx (p := fun g => decide (place v g (hM v) = x)) (B := L + 1) hL (hG v) 0 FU FU (L + 1) _ _ s Z (by omega) (by unfold FU; omega) (by unfold FU; omega) (by omega) z2 (ha.step _) hs
theorem room_f {X : ModelV} {g0 : GWV} {s0 s : SightV} (hv : HOK v) (hr : RelM (Model_now X) v) (hp : PhM X v (hF v)) (hlt : ∀ r, r < hR v → Mod_isLate (I (r : Int)) X = some (late v r)) (h0 : MS s0 v) {x L : Nat} (hx : x < hR v) (hL : L + 2 + cnt (fun g => decide (place v g (hM v) = x)) (hG v) + 1 ≤ 64) {F F' : Nat → Int32} {Y : ModelV} (hY : MF X Y F' (I (L : Int))) (ha : AG F F' L) (hs : MSn s0 s v) : ∃ F1 F1' s1, ∃ L1 : Nat, ∃ Y1 : ModelV, GW_addFormattedRoom (I (x : Int)) (GF g0 F (I (L : Int))) v s = some (GF g0 F1 (I (L1 : Int)), s1) ∧ Mod_writeRoom (I (x : Int)) Y = some Y1 ∧ MF X Y1 F1' (I (L1 : Int)) ∧ L1 ≤ L + 2 + cnt (fun g => decide (place v g (hM v) = x)) (hG v) + 1 ∧ AG F1 F1' L1 ∧ SOK s1 v ∧ Sight_stamp s1 = House_phasesStamp v := by
  have hR12 : hR v ≤ 12 := hv.1.2.2.1
  unfold GW_addFormattedRoom Mod_writeRoom
  by_cases c : x < 10
  · rw [if_pos (show I (x : Int) < (10 : Int32) from I_lt_t (a := (x : Int)) (b := 10) (by omega) (by omega) (by omega)), if_pos (show I (x : Int) ≤ (9 : Int32) from I_le_t (a := (x : Int)) (b := 9) (by omega) (by omega) (by omega))]
    obtain ⟨a, b, d, e, y, f1, f2, f0, f3, f4⟩ := room17 hv hr hp hlt h0 hx (by omega) hY ha hs (g0 := g0)
    exact ⟨a, b, d, e, y, f1, f2, f0, by omega, f4⟩
  · obtain ⟨Z, z1, z2⟩ := write_m (by omega) hY (48 + I (x : Int) / 10)
    rw [if_neg (show ¬ I (x : Int) < (10 : Int32) from I_lt_f (a := (x : Int)) (b := 10) (by omega) (by omega) (by omega)), if_neg (show ¬ I (x : Int) ≤ (9 : Int32) from I_le_f (a := (x : Int)) (b := 9) (by omega) (by omega) (by omega)), gd_t (show nz (10 : Int32) = true from rfl), gd_t (show nz (10 : Int32) = true from rfl), add_s (by omega), z1, bind_s, bind_s]
    obtain ⟨a, b, d, e, y, f1, f2, f0, f3, f4⟩ := room17 hv hr hp hlt h0 hx (L := L + 1) (by omega) z2 (ha.step _) hs (g0 := g0)
    exact ⟨a, b, d, e, y, f1, f2, f0, by omega, f4⟩
/-- all rooms -/
theorem rooms_f {X : ModelV} {g0 : GWV} {s0 : SightV} (hv : HOK v) (hr : RelM (Model_now X) v) (hp : PhM X v (hF v)) (hlt : ∀ r, r < hR v → Mod_isLate (I (r : Int)) X = some (late v r)) (h0 : MS s0 v) : ∀ (q k n1 n2 L : Nat) (F F' : Nat → Int32) (s : SightV) (Y : ModelV), hR v = k + q → q < n1 → q < n2 → L ≤ 4 * k + cnt (fun g => decide (place v g (hM v) < k)) (hG v) → MF X Y F' (I (L : Int)) → AG F F' L → MSn s0 s v → ∃ F1 F1' s1, ∃ L1 : Nat, ∃ Y1 : ModelV, GW_format_7 v n1 (I (k : Int)) (GF g0 F (I (L : Int))) s = some (I (L1 : Int), GF g0 F1 (I (L1 : Int)), s1) ∧ Mod_format_16 n2 (I (k : Int)) Y = some (I (L1 : Int), Y1) ∧ MF X Y1 F1' (I (L1 : Int)) ∧ L1 ≤ 64 ∧ AG F1 F1' L1 ∧ MSn s0 s1 v := by
  obtain ⟨hn, hd, hj, hl, hw, hs'⟩ := id hv
  have hR12 : hR v ≤ 12 := hn.2.2.1
  have hG4 : hG v ≤ 4 := hn.2.2.2.2.2.2.1
  have eR : House_rooms v = I (hR v) := hn.1
  have hc4 : ∀ k, cnt (fun g => decide (place v g (hM v) < k)) (hG v) ≤ 4 := fun k => Nat.le_trans (cnt_le _ _) hG4
  intro q
  induction q with
  | zero =>
    intro k n1 n2 L F F' s Y hk h1 h2 hL hY ha hs
    obtain ⟨n1, rfl⟩ : ∃ q, n1 = q + 1 := ⟨n1 - 1, by omega⟩
    obtain ⟨n2, rfl⟩ : ∃ q, n2 = q + 1 := ⟨n2 - 1, by omega⟩
    have := hc4 k
    refine ⟨F, F', s, L, Y, ?_, ?_, hY, by omega, ha, hs⟩
    · rw [GW_format_7, eR, if_pos (I_le_t (by omega) (by omega) (by omega))]
      rfl
    · rw [Mod_format_16, rooms_m (hY.rel hr) hn, bind_s, if_pos (I_le_t (by omega) (by omega) (by omega)), hY.2.2]
  | succ q ih =>
    intro k n1 n2 L F F' s Y hk h1 h2 hL hY ha hs
    obtain ⟨n1, rfl⟩ : ∃ q, n1 = q + 1 := ⟨n1 - 1, by omega⟩
    obtain ⟨n2, rfl⟩ : ∃ q, n2 = q + 1 := ⟨n2 - 1, by omega⟩
    have hck := cnt_lt_succ (f := fun g => place v g (hM v)) k (hG v)
    have h4 := hc4 (k + 1)
    rw [GW_format_7, eR, if_neg (I_le_f (by omega) (by omega) (by omega)), Mod_format_16, rooms_m (hY.rel hr) hn, bind_s, if_neg (I_le_f (by omega) (by omega) (by omega))]
    by_cases c : k = 0
    · subst c
      rw [if_pos (show I ((0 : Nat) : Int) ≤ (0 : Int32) from I_le_t (a := 0) (b := 0) (by omega) (by omega) (by omega)), if_pos (show I ((0 : Nat) : Int) ≤ (0 : Int32) from I_le_t (a := 0) (b := 0) (by omega) (by omega) (by omega))]
      obtain ⟨F1, F1', s1, L1, Z1, f1, f2, f0, f3, f4, f5, f6⟩ := room_f hv hr hp hlt h0 (x := 0) (by omega) (L := L) (by omega) hY ha hs (g0 := g0)
      rw [GW_format_28, f1, bind_s, nmL_e, I_succ, Mod_format_34, f2, bind_s, nmL_e, I_succ]
      exact ih (0 + 1) n1 n2 L1 F1 F1' s1 Z1 (by omega) (by omega) (by omega) (by omega) f0 f4 (Or.inr ⟨f5, f6⟩)
    · obtain ⟨Z, z1, z2⟩ := write_m (by omega) hY 32
      rw [if_neg (show ¬ I (k : Int) ≤ (0 : Int32) from I_le_f (a := (k : Int)) (b := 0) (by omega) (by omega) (by omega)), if_neg (show ¬ I (k : Int) ≤ (0 : Int32) from I_le_f (a := (k : Int)) (b := 0) (by omega) (by omega) (by omega)), add_s (by omega), z1, bind_s, bind_s]
      obtain ⟨F1, F1', s1, L1, Z1, f1, f2, f0, f3, f4, f5, f6⟩ := room_f hv hr hp hlt h0 (x := k) (by omega) (L := L + 1) (by omega) z2 (ha.step 32) hs (g0 := g0)
      rw [GW_format_28, f1, bind_s, nmL_e, I_succ, Mod_format_34, f2, bind_s, nmL_e, I_succ]
      exact ih (k + 1) n1 n2 L1 F1 F1' s1 Z1 (by omega) (by omega) (by omega) (by omega) f0 f4 (Or.inr ⟨f5, f6⟩)
end FORM
