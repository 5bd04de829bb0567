section WALK
variable {K : KT} {T : TT} {t : ToksV} {M : ModelV} {l f e k g : Nat} {v : HouseV}
theorem EE.draft {c : Nat} (h : EE K T t M c) (x : Nat → Int32) : EE K T t (Model_set_draft M x) c := by
  obtain ⟨h1, h2, h3, h4, h5, h6, y, h7⟩ := h
  exact ⟨h1, (kp_draft _ _).trans h2, (Mo_error_draft _ _).trans h3, h4, h5, (Mo_errorAt_draft _ _).trans h6, y, (value_c (kpV_draft _ _)).trans h7⟩
theorem SS.draft (h : SS K T t M l f e k) (x : Nat → Int32) : SS K T t (Model_set_draft M x) l f e k := ⟨h.1.c (kpV_draft _ _), h.2.1, (kp_draft _ _).trans h.2.2.1, (Mo_error_draft _ _).trans h.2.2.2⟩
/-- how the two read a walk -/
def RW (K : KT) (T : TT) (l e : Nat) (v : HouseV) (m : Nat → Int32) (g : Nat) (cls : Option (Int32 × ToksV × HouseV)) (mod : Option ModelV) : Prop :=
  (∃ (c : Nat) (t' : ToksV) (v' : HouseV) (M' : ModelV), 1 ≤ c ∧ c ≤ 4 ∧ cls = some (I (c : Int), t', v') ∧ mod = some M' ∧ EE K T t' M' c) ∨
  (∃ (t' : ToksV) (v' : HouseV) (M' : ModelV) (f' e' k' : Nat), cls = some (0, t', v') ∧ mod = some M' ∧ SS K T t' M' l f' e' k' ∧ e ≤ f' ∧ GU v' v g ∧ WFw v' g ∧ 1 ≤ hP v' g ∧ House_phases v' g = I (hF v' g : Int) ∧ hF v' g < hP v' g ∧ AO (Model_draft M') m g ∧ rowM (Model_draft M') v' g)
theorem RW.mono {e0 : Nat} {v0 : HouseV} {m m0 : Nat → Int32} {cls : Option (Int32 × ToksV × HouseV)} {mod : Option ModelV} (h : RW K T l e v m g cls mod) (he : e0 ≤ e) (hv : GU v v0 g) (hm : AO m m0 g) : RW K T l e0 v0 m0 g cls mod := by
  cases h with
  | inl h => exact Or.inl h
  | inr h =>
    obtain ⟨t', v', M', f', e', k', a1, a2, a3, a4, a5, a6, a7, a8, a9, a10, a11⟩ := h
    exact Or.inr ⟨t', v', M', f', e', k', a1, a2, a3, by omega, a5.trans hv, a6, a7, a8, a9, a10.trans hm, a11⟩
theorem setPhase_gu (v : HouseV) (g : Nat) (x : Int32) : GU (House_set_phases v (upd (House_phases v) g x)) v g := ⟨Ho_rooms_phases _ _, Ho_doors_phases _ _, Ho_guards_phases _ _, Ho_minute_phases _ _, Ho_openDoors_phases _ _, Ho_doorFirst_phases _ _, Ho_doorSecond_phases _ _, Ho_joined_phases _ _, Ho_limits_phases _ _, Ho_sightings_phases _ _, Ho_lastSeen_phases _ _, Ho_runs_phases _ _, Ho_longestRuns_phases _ _, fun g' hne => ⟨by rw [Ho_periods_phases], by rw [Ho_phases_phases, upd_n hne], by rw [Ho_walked_phases], fun s _ => by rw [Ho_walks_phases]⟩⟩
theorem st15 : stL 15 = stL 44 := by decide
/-- the phase behind a walk -/
theorem phase_ss (h : SS K T t M l f e k) (b : BW v g) (hg : g < hG v) (hw : WFw v g) (hp : 1 ≤ hP v g) (hph : House_phases v g = I ((0 : Nat) : Int)) (hr : rowM (Model_draft M) v g) (ic : Bool) : RW K T l f v (Model_draft M) g (HRead_readWalk_108 (I (g : Int)) ic 0 t v) (Mod_readWalk_146 (I (g : Int)) ic (I (hP v g : Int)) 1 M) := by
  have hG4 : hG v ≤ 4 := b.1.2.2.2.2.2.2.1
  have hP10 : hP v g ≤ 10 := hw.2.1
  unfold HRead_readWalk_108 Mod_readWalk_146
  rw [if_pos rfl, asB_1, check_t, bind_s]
  rcases word_ss h (i := 15) (j := 44) st15 (by decide) (by decide) (by decide) with ⟨w1, w2, w3⟩ | ⟨t', M', f', e', k', w1, w2, w3, w4, w5, w6, w7, w8, w9, -, -⟩
  · right
    have eF : hF v g = 0 := by unfold hF; rw [hph]; rfl
    rw [w1, bind_s, bif_f, w3, bind_s, bif_f]
    exact ⟨t, v, M, f, e, k, rfl, rfl, h, by omega, GU.refl v g, hw, hp, by rw [eF]; exact hph, by omega, AO.refl _ g, hr⟩
  · rw [w1, bind_s, bif_t, w3, bind_s, gd_I (by omega) (by omega) (by omega), I_clamp g (by omega), hw.1, w5, bind_s, bif_t, I1, I_sub]
    rw [← w9.1] at hr
    have e0 : (0 : Int32) = I 0 := rfl
    dsimp only
    rcases num_ss w6 (lo := 0) (hi := (hP v g : Int) - 1) (by omega) (by omega) (by omega) (by omega) with ⟨c, M2, n0, n1, n2, n3⟩ | ⟨a, t2, M2, fq, eq, kq, n1, n2, n3, n4, n5, n6, n7, n8, n9, n10, -⟩
    · left
      have n1' : Toks_numberCode 0 (I ((hP v g : Int) - 1)) t' = some (I (c : Int)) := n1
      have n2' : Mod_readNumber 0 (I ((hP v g : Int) - 1)) M' = some (0, M2) := n2
      have c0 : ¬ I (c : Int) = (0 : Int32) := by
        have h1 := n3.2.2.2.2.1
        exact I_ne (a := (c : Int)) (b := 0) (by omega) (by omega) (by omega) (by omega) (by omega)
      rw [n1', bind_s, if_neg c0, n2', bind_s, ← I1, ga1, bind_s]
      dsimp only
      rw [if_neg n3.ne, gd_I (by omega) (by omega) (by omega), nmL_e]
      exact ⟨c, t', v, _, n0, n3.2.2.2.2.1, rfl, rfl, n3.draft _⟩
    · right
      have n1' : Toks_numberCode 0 (I ((hP v g : Int) - 1)) t' = some 0 := n1
      have n6' : Mod_readNumber 0 (I ((hP v g : Int) - 1)) M' = some (I (a : Int), M2) := n6
      rw [n1', bind_s, if_pos rfl, nmL_e, n5, bind_s, n6', bind_s, ← I1, ga1, bind_s]
      dsimp only
      rw [if_pos n7.2.2.2, gd_I (by omega) (by omega) (by omega), I_clamp _ (by omega), nmL_e, n4, n10.1]
      have gu := setPhase_gu v g (I (a : Int))
      have ww : WFw (House_set_phases v (upd (House_phases v) g (I (a : Int)))) g := wfw_c (Ho_rooms_phases _ _) (Ho_periods_phases _ _) (Ho_walks_phases _ _) (Ho_walked_phases _ _) hw
      have f1 : House_phases (House_set_phases v (upd (House_phases v) g (I (a : Int)))) g = I (a : Int) := by rw [Ho_phases_phases, upd_i]
      have f2 : House_periods (House_set_phases v (upd (House_phases v) g (I (a : Int)))) = House_periods v := Ho_periods_phases _ _
      have f3 : House_walks (House_set_phases v (upd (House_phases v) g (I (a : Int)))) = House_walks v := Ho_walks_phases _ _
      revert gu ww f1 f2 f3
      generalize House_set_phases v (upd (House_phases v) g (I (a : Int))) = w
      intro gu ww f1 f2 f3
      have gP : hP w g = hP v g := by unfold hP; rw [f2]
      have gF : hF w g = a := by unfold hF; rw [f1]; exact I_clamp a (by omega)
      refine ⟨t2, w, _, fq, eq, kq, rfl, rfl, n7.draft _, by omega, gu, ww, by omega, by rw [gF]; exact f1, by omega, ?_, ?_⟩
      · rw [Mo_draft_draft, w9.1]
        exact (AO.refl _ g).upd (by omega) (by omega) _
      · rw [Mo_draft_draft]
        unfold rowM
        rw [gP, f1, f2, f3, upd_i, upd_n (by omega)]
        exact ⟨hr.1, rfl, fun s hs => by rw [upd_n (by omega)]; exact hr.2.2 s hs⟩
theorem e146 (h : ¬ Model_error M = 0) (x y s : Int32) (ic : Bool) (hs : s = 0 ∨ s = 1) : Mod_readWalk_146 x ic y s M = some M := by
  unfold Mod_readWalk_146
  rcases hs with rfl | rfl
  · rw [asB_0, check_e h, bind_s, accept_e h, bind_s, bif_f]
  · rw [asB_1, check_e h, bind_s, accept_e h, bind_s, bif_f]
theorem e108 (h : ¬ Model_error M = 0) (x y : Int32) (ic : Bool) : Mod_readWalk_108 x ic y 1 M = some M := by
  unfold Mod_readWalk_108 Mod_readWalk_141
  rw [asB_1, check_e h, bind_s, if_neg h, e146 h _ _ _ _ (Or.inr rfl)]
/-- the end of a walk's rooms -/
theorem end_ss (h : SS K T t M l f e k) (b : BW v g) (hg : g < hG v) (hw : WFw v g) (hp : 1 ≤ hP v g) (hph : House_phases v g = I ((0 : Nat) : Int)) (hb : BR (Model_draft M) v g) (hr : rowM (Model_draft M) v g) (ic : Bool) : RW K T l f v (Model_draft M) g (HRead_readWalk_94 (I (g : Int)) ic 0 t v) (Mod_readWalk_50 (I (g : Int)) ic M) := by
  have hG4 : hG v ≤ 4 := b.1.2.2.2.2.2.2.1
  have hP10 : hP v g ≤ 10 := hw.2.1
  have t4 := h.2.2.2
  have t1 := h.1
  have ePer : Model_draft M (124 + 12 * g) = I (hP v g : Int) := hr.1.trans hw.1
  unfold HRead_readWalk_94 Mod_readWalk_50
  rw [if_pos rfl, if_pos t4, ga0, bind_s, gd_I (by omega) (by omega) (by omega), I_clamp _ (by omega), ePer, nmL_e]
  have hlast := hw.2.2.1 (hP v g - 1) (by omega)
  have hfirst := hw.2.2.1 0 (by omega)
  -- the walk goes round
  have hround : RW K T l f v (Model_draft M) g (Option.bind (HRead_endOfRoomsCode_44 (I (g : Int)) ic t v) fun p => HRead_readWalk_108 (I (g : Int)) ic p t v) (Mod_readWalk_108 (I (g : Int)) ic (I (hP v g : Int)) 1 M) := by
    unfold HRead_endOfRoomsCode_44 Mod_readWalk_108
    have e1 : Model_draft M (126 + 12 * g + (hP v g - 1)) = I (hW v g (hP v g - 1) : Int) := (hr.2.2 _ (by omega)).trans hlast.1
    have e2 : Model_draft M (126 + 12 * g + 0) = I (hW v g 0 : Int) := (hr.2.2 0 (by omega)).trans hfirst.1
    have e3 : Mod_stepD (I (g : Int)) 0 M = some (I (hW v g 0 : Int)) := by
      have := stepD_m (M := M) (g := g) (by omega) (s := 0) (by omega)
      rw [e2] at this
      exact this
    have e4 : House_walkRoom (I (g : Int)) 0 v = some (I (hW v g 0 : Int)) := by
      have := walkRoom_s b.1 hg hw (s := 0) (by omega)
      rw [if_pos (by omega)] at this
      exact this
    rw [lastRoom_s b.1 hg hw, bind_s, e4, bind_s, if_neg (show ¬ hP v g = 0 by omega), canGo_s b hlast.2 hfirst.2, bind_s, asB_1, check_t, bind_s, if_pos t4, I1, I_sub, show (hP v g : Int) - 1 = ((hP v g - 1 : Nat) : Int) by omega, stepD_m (by omega) (by omega), bind_s, e1, e3, bind_s, isStep_m b hb hlast.2 hfirst.2, bind_s]
    cases go v (hW v g (hP v g - 1)) (hW v g 0)
    · left
      obtain ⟨M', m1, m2⟩ := flaw_ee h (c := 4) (by omega) (by omega)
      refine ⟨4, t, v, M', by omega, by omega, ?_, ?_, m2⟩
      · rw [bif_f, bind_s]
        unfold HRead_readWalk_108
        rw [if_neg (by decide)]
        rfl
      · unfold Mod_readWalk_146
        rw [bif_f, asB_0, show (4 : Int32) = I ((4 : Nat) : Int) from rfl, m1, bind_s, accept_e m2.ne, bind_s, bif_f]
    · rw [bif_t, bind_s, bif_t]
      exact phase_ss h b hg hw hp hph hr ic
  -- nothing that may end the rooms
  have hnone : RW K T l f v (Model_draft M) g (some (1, t, v)) (Mod_readWalk_107 (I (g : Int)) ic (I (hP v g : Int)) M) := by
    left
    obtain ⟨M', m1, m2⟩ := flaw_ee h (c := 1) (by omega) (by omega)
    refine ⟨1, t, v, M', by omega, by omega, rfl, ?_, m2⟩
    unfold Mod_readWalk_107 Mod_readWalk_108 Mod_readWalk_141
    rw [asB_0, show (1 : Int32) = I ((1 : Nat) : Int) from rfl, m1, bind_s, if_neg m2.ne]
    exact e146 m2.ne _ _ _ _ (Or.inr rfl)
  have hcls : ∀ (q w : Bool), Toks_isWord 15 t = some w → (bif ic then Toks_isEnd t else Toks_isSign 59 t) = some q → Option.bind (HRead_endOfRoomsCode (I (g : Int)) ic t v) (fun p => HRead_readWalk_108 (I (g : Int)) ic p t v) = bif (q || w) then Option.bind (HRead_endOfRoomsCode_44 (I (g : Int)) ic t v) (fun p => HRead_readWalk_108 (I (g : Int)) ic p t v) else some (1, t, v) := by
    intro q w hw1 hq
    have hq' : HRead_endOfRoomsCode (I (g : Int)) ic t v = HRead_endOfRoomsCode_23 (I (g : Int)) ic t v (b2i q) := by
      unfold HRead_endOfRoomsCode
      cases ic
      · rw [bif_f] at hq
        rw [bif_f, hq, bind_s]
      · rw [bif_t] at hq
        rw [bif_t, hq, bind_s]
    rw [hq']
    unfold HRead_endOfRoomsCode_23
    cases q
    · rw [if_pos (show b2i false = 0 from rfl), hw1, bind_s, Bool.false_or]
      cases w
      · rw [bif_f, bif_f, bind_s]
        unfold HRead_readWalk_108
        rw [if_neg (by decide)]
      · rw [bif_t, bif_t]
    · rw [if_neg (by decide), Bool.true_or, bif_t]
  obtain ⟨s, s1, s2, -⟩ := isSign_tk 59 t1 t4
  have hend := isEnd_tk t1
  rcases word_ss h (i := 15) (j := 44) st15 (by decide) (by decide) (by decide) with ⟨w1, w2, -⟩ | ⟨-, -, -, -, -, w1, w2, -⟩
  · cases ic
    · rw [hcls s false w1 (by rw [bif_f]; exact s1), w2, bind_s, bif_f, bif_f, s2, bind_s, Bool.or_false]
      cases s
      · rw [bif_f, bif_f]; exact hnone
      · rw [bif_t, bif_t]; exact hround
    · rw [hcls (decide (k = 0)) false w1 (by rw [bif_t]; exact hend), w2, bind_s, bif_f, bif_t, Bool.or_false]
      by_cases c : k = 0
      · rw [decide_eq_true c, bif_t, if_pos ((km0 t1).mpr c)]; exact hround
      · rw [decide_eq_false c, bif_f, if_neg fun q => c ((km0 t1).mp q)]; exact hnone
  · rw [w2, bind_s, bif_t]
    cases ic
    · rw [hcls s true w1 (by rw [bif_f]; exact s1), Bool.or_true, bif_t]; exact hround
    · rw [hcls (decide (k = 0)) true w1 (by rw [bif_t]; exact hend), Bool.or_true, bif_t]; exact hround
theorem c108 (t : ToksV) (v : HouseV) (x c : Int32) (hc : ¬ c = 0) (ic : Bool) : HRead_readWalk_108 x ic c t v = some (c, t, v) := by
  unfold HRead_readWalk_108
  rw [if_neg hc]
theorem c94 (t : ToksV) (v : HouseV) (x c : Int32) (hc : ¬ c = 0) (ic : Bool) : HRead_readWalk_94 x ic c t v = some (c, t, v) := by
  unfold HRead_readWalk_94
  rw [if_neg hc, c108 t v x c hc]
theorem c34 (t : ToksV) (v : HouseV) (x c y : Int32) (hc : ¬ c = 0) (ic : Bool) (n : Nat) : HRead_readWalk_34 x ic (n + 1) c y t v = some (c, t, v) := by
  rw [HRead_readWalk_34]
  by_cases d : 10 < y
  · rw [if_pos d, c94 t v x c hc]
  · rw [if_neg d, if_neg hc, c94 t v x c hc]
theorem m27e (h : ¬ Model_error M = 0) (x : Int32) (ic : Bool) (n : Nat) : Mod_readWalk_27 x ic (n + 1) M = some M := by
  rw [Mod_readWalk_27, if_neg h]
  unfold Mod_readWalk_50
  rw [if_neg h]
theorem EE.c0 {c : Nat} (h : EE K T t M c) : ¬ I (c : Int) = (0 : Int32) := by
  have h1 := h.2.2.2.1
  have h2 := h.2.2.2.2.1
  exact I_ne (a := (c : Int)) (b := 0) (by omega) (by omega) (by omega) (by omega) (by omega)
/-- the rooms of a walk -/
theorem loop_ss : ∀ (q n1 n2 : Nat) (t : ToksV) (M : ModelV) (v : HouseV) (f e k : Nat), SS K T t M l f e k → BW v g → g < hG v → WFw v g → 1 ≤ hP v g → House_phases v g = I ((0 : Nat) : Int) → BR (Model_draft M) v g → rowM (Model_draft M) v g → 10 = hP v g + q → q + 1 < n1 → q + 1 < n2 → ∀ ic : Bool, RW K T l f v (Model_draft M) g (HRead_readWalk_34 (I (g : Int)) ic n1 0 (I (hP v g : Int)) t v) (Mod_readWalk_27 (I (g : Int)) ic n2 M) := by
  intro q
  induction q with
  | zero =>
    intro n1 n2 t M v f e k h b hg hw hp hph hb hr hq h1 h2 ic
    obtain ⟨n1, rfl⟩ : ∃ q, n1 = q + 2 := ⟨n1 - 2, by omega⟩
    obtain ⟨n2, rfl⟩ : ∃ q, n2 = q + 2 := ⟨n2 - 2, by omega⟩
    have t1 := h.1
    rw [HRead_readWalk_34, if_neg (show ¬ (10 : Int32) < I (hP v g : Int) from I_lt_f (a := 10) (b := (hP v g : Int)) (by omega) (by omega) (by omega)), if_pos rfl, isNumber_tk t1, bind_s, Mod_readWalk_27, if_pos h.2.2.2]
    by_cases c : k = 2
    · rw [decide_eq_true c, bif_t, if_pos ((km2 t1).mpr c)]
      rcases step_ss h b hg hw hb hr with ⟨c, M', m0, m1, m2, m3, m4⟩ | ⟨a, v', t', M', f', e', k', -, -, -, -, -, -, -, -, -, m9, m10, -⟩
      · left
        rw [m2, bind_s, if_neg m4.c0, nmL_e, c34 _ _ _ _ _ m4.c0, m3, bind_s, m27e m4.ne]
        exact ⟨c, t, v, M', m0, m1, rfl, rfl, m4⟩
      · exfalso
        have := m9.2.1
        omega
    · rw [decide_eq_false c, bif_f, if_neg fun q => c ((km2 t1).mp q)]
      exact end_ss h b hg hw hp hph hb hr ic
  | succ q ih =>
    intro n1 n2 t M v f e k h b hg hw hp hph hb hr hq h1 h2 ic
    obtain ⟨n1, rfl⟩ : ∃ q, n1 = q + 2 := ⟨n1 - 2, by omega⟩
    obtain ⟨n2, rfl⟩ : ∃ q, n2 = q + 2 := ⟨n2 - 2, by omega⟩
    have t1 := h.1
    have hG4 : hG v ≤ 4 := b.1.2.2.2.2.2.2.1
    rw [HRead_readWalk_34, if_neg (show ¬ (10 : Int32) < I (hP v g : Int) from I_lt_f (a := 10) (b := (hP v g : Int)) (by omega) (by omega) (by omega)), if_pos rfl, isNumber_tk t1, bind_s, Mod_readWalk_27, if_pos h.2.2.2]
    by_cases c : k = 2
    · rw [decide_eq_true c, bif_t, if_pos ((km2 t1).mpr c)]
      rcases step_ss h b hg hw hb hr with ⟨c, M', m0, m1, m2, m3, m4⟩ | ⟨a, v', t', M', f', e', k', m1, m2, m3, m4, m5, m6, m7, m8, m9, m10, m11, m12, m13, m14⟩
      · left
        rw [m2, bind_s, if_neg m4.c0, nmL_e, c34 _ _ _ _ _ m4.c0, m3, bind_s, m27e m4.ne]
        exact ⟨c, t, v, M', m0, m1, rfl, rfl, m4⟩
      · rw [m3, bind_s, if_pos rfl, m2, m4, bind_s, m5, bind_s, nmL_e, m6, bind_s, I_succ, ← m11]
        have hfe : f < e := by
          have := t1.2.2.2.2.2.2.2.2.1
          omega
        exact (ih (n1 + 1) (n2 + 1) t' M' v' f' e' k' m7 (m9.bw b) (by rw [m9.G]; exact hg) m10 (by omega) (by rw [m12]; exact hph) (m9.br b m13 hb (by omega)) m14 (by omega) (by omega) (by omega) ic).mono (by omega) m9 m13
    · rw [decide_eq_false c, bif_f, if_neg fun q => c ((km2 t1).mp q)]
      exact end_ss h b hg hw hp hph hb hr ic
/-- a walk -/
theorem walk_ss (h : SS K T t M l f e k) (b : BW v g) (hg : g < hG v) (hb : BR (Model_draft M) v g) (ic : Bool) : RW K T l e v (Model_draft M) g (HRead_readWalk (I (g : Int)) ic t v) (Mod_readWalk (I (g : Int)) ic M) := by
  have hG4 : hG v ≤ 4 := b.1.2.2.2.2.2.2.1
  obtain ⟨w, w1, w2, w3, w4, w5⟩ := emptyWalk_s b hg
  have hP0 : hP w g = 0 := by unfold hP; rw [w3]; rfl
  have hK0 : hK w g = 0 := by unfold hK; rw [w5]; rfl
  have ww : WFw w g := ⟨by rw [hP0]; exact w3, by omega, fun s hs => absurd hs (by omega), by rw [hK0]; exact w5, by rw [hK0, hP0]; rfl⟩
  have hm : ∃ N, Mod_readWalk (I (g : Int)) ic M = Option.bind (Mod_readStep (I (g : Int)) N) (fun p => Mod_readWalk_27 (I (g : Int)) ic FU p) ∧ SS K T t N l f e k ∧ AO (Model_draft N) (Model_draft M) g ∧ rowM (Model_draft N) w g := by
    unfold Mod_readWalk
    rw [ga0, bind_s, gd_I (by omega) (by omega) (by omega), I_clamp _ (by omega), nmL_e, ga1, bind_s, gd_I (by omega) (by omega) (by omega), I_clamp _ (by omega), nmL_e, Mo_draft_draft]
    refine ⟨_, rfl, (h.draft _).draft _, ?_, ?_⟩
    · rw [Mo_draft_draft]
      exact ((AO.refl _ g).upd (by omega) (by omega) _).upd (by omega) (by omega) _
    · rw [Mo_draft_draft]
      unfold rowM
      rw [w3, w4, hP0, upd_i, upd_n (by omega), upd_i]
      exact ⟨rfl, rfl, fun s hs => absurd hs (by omega)⟩
  obtain ⟨N, n1, n2, n3, n4⟩ := hm
  have bw := w2.bw b
  have hgw : g < hG w := by rw [w2.G]; exact hg
  have br := w2.br b n3 hb (by omega)
  have t1 := n2.1
  rw [n1]
  unfold HRead_readWalk
  rw [hasG b hg, bind_s, bif_t, w1, bind_s]
  have hcode : ∃ p, Toks_numberCode 0 (House_rooms w - 1) t = some p := by
    unfold Toks_numberCode
    split
    · split
      · exact ⟨_, rfl⟩
      · split <;> exact ⟨_, rfl⟩
    · exact ⟨_, rfl⟩
  obtain ⟨p, hpc⟩ := hcode
  rw [hpc, bind_s]
  obtain ⟨n, hn⟩ : ∃ n, FU = n + 1 := ⟨FU - 1, rfl⟩
  by_cases hp0 : p = 0
  · subst hp0
    have hk : k = 2 := Classical.byContradiction fun hk => by
      rw [numberCode_n t1 hk] at hpc
      exact absurd (Option.some.inj hpc) (by decide)
    rw [hn, HRead_readWalk_34, if_neg (by decide), if_pos rfl, isNumber_tk t1, bind_s, decide_eq_true hk, bif_t]
    have hn' : 20 < n := by unfold FU at hn; omega
    rcases step_ss n2 bw hgw ww br n4 with ⟨c, M', m0, m1, m2, m3, m4⟩ | ⟨a, v', t', M', f', e', k', m1, m2, m3, m4, m5, m6, m7, m8, m9, m10, m11, m12, m13, m14⟩
    · left
      obtain ⟨n, rfl⟩ : ∃ q, n = q + 1 := ⟨n - 1, by omega⟩
      rw [m2, bind_s, if_neg m4.c0, nmL_e, c34 _ _ _ _ _ m4.c0, m3, bind_s, m27e m4.ne]
      exact ⟨c, t, w, M', m0, m1, rfl, rfl, m4⟩
    · rw [m3, bind_s, if_pos rfl, m2, m4, bind_s, m5, bind_s, nmL_e, m6, bind_s]
      have h1 : hP v' g = 1 := by omega
      have e1 : (0 : Int32) + 1 = I (hP v' g : Int) := by rw [h1]; rfl
      rw [e1]
      exact ((loop_ss 9 n (n + 1) t' M' v' f' e' k' m7 (m9.bw bw) (by rw [m9.G]; exact hgw) m10 (by omega) (by rw [m12]; exact w4) (m9.br bw m13 br (by omega)) m14 (by omega) (by omega) (by omega) ic).mono m8 m9 m13).mono (Nat.le_refl _) w2 n3
  · rcases step_ss n2 bw hgw ww br n4 with ⟨c, M', m0, m1, m2, m3, m4⟩ | ⟨a, v', t', M', f', e', k', m1, m2, m3, -⟩
    · left
      have hpp := stepCode_nc hpc hp0 (I (g : Int))
      rw [m2] at hpp
      have hpp := Option.some.inj hpp
      rw [← hpp, hn, c34 _ _ _ _ _ m4.c0, m3, bind_s, m27e m4.ne]
      exact ⟨c, t, w, M', m0, m1, rfl, rfl, m4⟩
    · exfalso
      rw [stepCode_nc hpc hp0] at m3
      exact hp0 (Option.some.inj m3)
end WALK
