section LAY
section
variable {m : ModelV} {f l s g b x : Nat → Int32}
theorem ML_f : Model_firstSeen (ML m f l s g b) = f := rfl
theorem ML_l : Model_latestSeen (ML m f l s g b) = l := rfl
theorem ML_s : Model_seenCount (ML m f l s g b) = s := rfl
theorem ML_g : Model_gap (ML m f l s g b) = g := rfl
theorem ML_b : Model_gapBegin (ML m f l s g b) = b := rfl
theorem ML_sf : Model_set_firstSeen (ML m f l s g b) x = ML m x l s g b := rfl
theorem ML_sl : Model_set_latestSeen (ML m f l s g b) x = ML m f x s g b := rfl
theorem ML_ss : Model_set_seenCount (ML m f l s g b) x = ML m f l x g b := rfl
theorem ML_sg : Model_set_gap (ML m f l s g b) x = ML m f l s x b := rfl
theorem ML_sb : Model_set_gapBegin (ML m f l s g b) x = ML m f l s g x := rfl
theorem ML_c : Model_cycleNow (ML m f l s g b) = Model_cycleNow m := MLo_cycleNow m f l s g b
theorem ML_now : Model_now (ML m f l s g b) = Model_now m := MLo_now m f l s g b
theorem rel_ML {v : HouseV} (h : RelM (Model_now m) v) : RelM (Model_now (ML m f l s g b)) v := by rw [ML_now]; exact h
theorem ML_ph : Model_phases (ML m f l s g b) = Model_phases m := MLo_phases m f l s g b
theorem ph_ML {v : HouseV} {q : Nat → Nat} (h : PhM m v q) : PhM (ML m f l s g b) v q := fun g hg => by rw [ML_ph]; exact h g hg
theorem sph_now : Model_now (Model_set_phases m x) = Model_now m := Mo_now_phases m x
theorem rel_ph {v : HouseV} (h : RelM (Model_now m) v) : RelM (Model_now (Model_set_phases m x)) v := by rw [sph_now]; exact h
theorem ML_self : ML m (Model_firstSeen m) (Model_latestSeen m) (Model_seenCount m) (Model_gap m) (Model_gapBegin m) = m := rfl
end
/-- a room in these rows stands at x -/
def MR (f l s g b : Nat → Int32) (r : Nat) (x : CS) : Prop := f r = I x.1 ∧ (x.1 ≠ -1 → l r = I x.2.1) ∧ g r = I x.2.2.1 ∧ b r = I x.2.2.2.1 ∧ s r = I x.2.2.2.2
def mb (t : Int) (x : CS) : Prop := -1 ≤ x.1 ∧ x.1 < t ∧ (x.1 ≠ -1 → 0 ≤ x.2.1 ∧ x.1 ≤ x.2.1 ∧ x.2.1 < t) ∧ -1 ≤ x.2.2.1 ∧ x.2.2.1 < t ∧ -1 ≤ x.2.2.2.1 ∧ x.2.2.2.1 ≤ t ∧ 0 ≤ x.2.2.2.2 ∧ x.2.2.2.2 ≤ t
theorem mb_mono {t u : Int} {x : CS} (h : mb t x) (hu : t ≤ u) : mb u x := by
  obtain ⟨a, b, c, d, e, f, g, i, j⟩ := h
  refine ⟨a, by omega, fun h => ?_, d, by omega, f, by omega, i, by omega⟩
  have := c h
  omega
theorem mb_step {t : Int} {x : CS} (ht : 0 ≤ t) (h : mb t x) : mb (t + 1) (mstep t x) := by
  obtain ⟨f, l, g, s, n⟩ := x
  unfold mb at h ⊢
  unfold mstep
  dsimp only at h ⊢
  obtain ⟨a1, a2, a3, a4, a5, a6, a7, a8, a9⟩ := h
  by_cases hf : f = -1
  · rw [if_pos hf]
    dsimp only
    omega
  · have := a3 hf
    rw [if_neg hf]
    dsimp only
    refine ⟨a1, by omega, fun _ => by omega, by omega, by omega, ?_, ?_, by omega, by omega⟩
    · split <;> omega
    · split <;> omega
theorem mst_b (S : Nat → Bool) (l0 : Int) (t : Nat) : mb (t : Int) (mst S l0 t) := by
  induction t with
  | zero => exact ⟨show (-1 : Int) ≤ -1 by decide, show (-1 : Int) < 0 by decide, fun h => absurd rfl h, show (-1 : Int) ≤ -1 by decide, show (-1 : Int) < 0 by decide, show (-1 : Int) ≤ -1 by decide, show (-1 : Int) ≤ 0 by decide, show (0 : Int) ≤ 0 by decide, show (0 : Int) ≤ 0 by decide⟩
  | succ t ih =>
    unfold mst
    cases S t
    · exact mb_mono ih (by omega)
    · exact mb_step (by omega) ih
theorem endGap_m {m : ModelV} {f l s g b : Nat → Int32} {r : Nat} {t len beg G B : Int} (hr : r < 12) (h1 : -10 ≤ len) (h2 : len ≤ 1000000) (h3 : -10 ≤ beg) (h4 : beg ≤ 1000000) (h5 : -10 ≤ G) (h6 : G ≤ 1000000) (h7 : -10 ≤ B) (h8 : B ≤ 1000000) (hg : g r = I G) (hb : b r = I B) :
    Mod_endGap (I (r : Int)) (I t) (I len) (I beg) (ML m f l s g b) = some (ML m f (upd l r (I t)) s (upd g r (I (max G len))) (upd b r (I (if G < len ∨ len = G ∧ beg < B then beg else B)))) := by
  have fin : ∀ y : Int32, Mod_endGap_59 (I (r : Int)) (I t) (I len) (I beg) y (I (r : Int)) (ML m f l s g b) = some (ML m f (upd l r (I t)) s (upd g r (I (max G len))) (upd b r y)) := by
    intro y
    unfold Mod_endGap_59
    rw [gd_I (by omega) (by omega) (by omega), nmL_e, gd_I (by omega) (by omega) (by omega), nmL_e, nmL_e, I_clamp r (by omega), ML_b, ML_sb, ML_g, hg, imax_I (by omega) (by omega) (by omega) (by omega), ML_sg, ML_l, ML_sl]
  have t1 : Mod_endGap_31 (I (r : Int)) (I t) (I len) (I beg) (ML m f l s g b) = some (ML m f (upd l r (I t)) s (upd g r (I (max G len))) (upd b r (I beg))) := by
    unfold Mod_endGap_31 Mod_endGap_36
    rw [if_neg (by decide : ¬ (1 : Int32) = 0)]
    exact fin _
  have t0 : Mod_endGap_35 (I (r : Int)) (I t) (I len) (I beg) (ML m f l s g b) = some (ML m f (upd l r (I t)) s (upd g r (I (max G len))) (upd b r (I B))) := by
    unfold Mod_endGap_35 Mod_endGap_36
    rw [if_pos rfl, gd_I (by omega) (by omega) (by omega), I_clamp r (by omega), ML_b, hb]
    exact fin _
  unfold Mod_endGap
  rw [gd_I (by omega) (by omega) (by omega), I_clamp r (by omega), ML_g, ML_b, hg, hb]
  by_cases c1 : G < len
  · rw [if_pos (I_lt_t c1 (by omega) (by omega)), t1, if_pos (Or.inl c1)]
  · rw [if_neg (I_lt_f (by omega) (by omega) (by omega))]
    by_cases c2 : len = G
    · rw [if_pos (by rw [c2])]
      by_cases c3 : B ≤ beg
      · rw [if_pos (I_le_t c3 (by omega) (by omega)), t0, if_neg (show ¬ (G < len ∨ len = G ∧ beg < B) by omega)]
      · rw [if_neg (I_le_f (by omega) (by omega) (by omega)), t1, if_pos (show G < len ∨ len = G ∧ beg < B by omega)]
    · rw [if_neg (I_ne c2 (by omega) (by omega) (by omega) (by omega)), t0, if_neg (show ¬ (G < len ∨ len = G ∧ beg < B) by omega)]
theorem MR_o {f l s g b f' l' s' g' b' : Nat → Int32} {r : Nat} {x : CS} (h : MR f l s g b r x) (e1 : f' r = f r) (e2 : l' r = l r) (e3 : s' r = s r) (e4 : g' r = g r) (e5 : b' r = b r) : MR f' l' s' g' b' r x := by
  unfold MR at h ⊢
  rw [e1, e2, e3, e4, e5]
  exact h
theorem see_m {m : ModelV} {f l s g b : Nat → Int32} {r t : Nat} {x : CS} (hr : r < 12) (ht : t < 100000) (hb : mb (t : Int) x) (h : MR f l s g b r x) : ∃ f' l' s' g' b', Mod_see (I (r : Int)) (I (t : Int)) (ML m f l s g b) = some (ML m f' l' s' g' b') ∧ MR f' l' s' g' b' r (mstep (t : Int) x) ∧ ∀ q y, q ≠ r → MR f l s g b q y → MR f' l' s' g' b' q y := by
  obtain ⟨e1, e2, e3, e4, e5⟩ := h
  obtain ⟨a1, a2, a3, a4, a5, a6, a7, a8, a9⟩ := hb
  unfold Mod_see
  rw [gd_I (by omega) (by omega) (by omega), nmL_e, I_clamp r (by omega), ML_s, ML_ss, ML_f, e1, e5, Im1, I1, I_add]
  by_cases c : x.1 = -1
  · rw [if_pos (by rw [c]), nmL_e, nmL_e, ML_sf, ML_l, ML_sl]
    refine ⟨_, _, _, _, _, rfl, ?_, fun q y hq hy => MR_o hy (upd_n hq) (upd_n hq) (upd_n hq) rfl rfl⟩
    unfold mstep
    rw [if_pos c]
    exact ⟨upd_i, fun _ => upd_i, e3, e4, upd_i⟩
  · have hx := a3 c
    rw [if_neg (I_ne c (by omega) (by omega) (by omega) (by omega)), ML_l, e2 c, I_sub, I_sub, I_add, endGap_m hr (by omega) (by omega) (by omega) (by omega) (by omega) (by omega) (by omega) (by omega) e3 e4, bind_s]
    refine ⟨_, _, _, _, _, rfl, ?_, fun q y hq hy => MR_o hy rfl (upd_n hq) (upd_n hq) (upd_n hq) (upd_n hq)⟩
    unfold mstep
    rw [if_neg c]
    exact ⟨e1, fun _ => upd_i, upd_i, upd_i, upd_i⟩
/-- the rooms of one minute, the lowest first -/
theorem lay68_m {m : ModelV} {t A R : Nat} {k : Int32 → ModelV → Option ModelV} (ht : t < 100000) (hR : A < 2 ^ R) {X : Nat → CS} (hX : ∀ r, mb (t : Int) (X r)) : ∀ (n left : Nat) (f l s g b : Nat → Int32), left < n → left < 4096 → (∀ i, left.testBit i = true → A.testBit i = true) → (∀ r, r < R → MR f l s g b r (if A.testBit r && !left.testBit r then mstep (t : Int) (X r) else X r)) → ∃ f' l' s' g' b', Mod_layCycle_68 (I (t : Int)) k n (I (left : Int)) (ML m f l s g b) = k (I ((t + 1 : Nat) : Int)) (ML m f' l' s' g' b') ∧ ∀ r, r < R → MR f' l' s' g' b' r (if A.testBit r then mstep (t : Int) (X r) else X r) := by
  intro n
  induction n with
  | zero => intro left f l s g b h; omega
  | succ n ih =>
    intro left f l s g b h1 h2 hA h3
    rw [Mod_layCycle_68, I0]
    by_cases c : left = 0
    · subst c
      rw [if_pos (show I ((0 : Nat) : Int) = I 0 from rfl), nmL_e, I_succ]
      refine ⟨f, l, s, g, b, rfl, fun r hr => ?_⟩
      have := h3 r hr
      rw [Nat.zero_testBit, Bool.not_false, Bool.and_true] at this
      exact this
    · obtain ⟨j, j1, j2, j3, j4⟩ := ntz_s h2 c
      have hlt : left &&& (left - 1) ≤ left - 1 := Nat.and_le_right
      have jR : j < R := by
        apply Nat.lt_of_not_le
        intro h
        have := Nat.testBit_lt_two_pow (Nat.lt_of_lt_of_le hR (Nat.pow_le_pow_right (by decide) h))
        rw [hA j j3] at this
        cases this
      have hj := h3 j jR
      rw [j3, Bool.not_true, Bool.and_false, if_neg (by decide)] at hj
      obtain ⟨f', l', s', g', b', e, p1, p2⟩ := see_m (m := m) j2 ht (hX j) hj
      rw [if_neg (I_ne (by omega) (by omega) (by omega) (by omega) (by omega)), j1, bind_s, e, bind_s, nmL_e, I_pred_and (by omega)]
      refine ih (left &&& (left - 1)) f' l' s' g' b' (by omega) (by omega) (fun i hi => hA i ?_) (fun r hr => ?_)
      · rw [Nat.testBit_and, Bool.and_eq_true] at hi
        exact hi.1
      · rw [j4, sdf_bit, tb_one]
        by_cases hrj : r = j
        · subst hrj
          rw [decide_eq_true rfl, Bool.not_true, Bool.and_false, Bool.not_false, Bool.and_true, if_pos (hA r j3)]
          exact p1
        · rw [decide_eq_false (fun h => hrj h.symm), Bool.not_false, Bool.and_true]
          exact p2 r _ hrj (h3 r hr)
section
variable {M : ModelV} {v : HouseV} {p : Nat → Int32}
/-- the minutes of the cycle, then the close of the round -/
def GM (s g b : Nat → Int32) (w : HouseV) (r : Nat) : Prop := g r = I (gapC (Sg w r) (cyc w)) ∧ s r = I (cntC (Sg w r) (cyc w)) ∧ (0 < gapC (Sg w r) (cyc w) → b r = I (begC (Sg w r) (cyc w)))
theorem lay98_m (hr : RelM (Model_now M) v) (hn : WFn v) (hw : WFG (House_set_phases v p)) (hc : Model_cycleNow M = I ((cyc (House_set_phases v p) : Nat) : Int)) : ∀ (q k n : Nat) (f l s g b : Nat → Int32), hR v = k + q → q < n → (∀ r, r < k → GM s g b (House_set_phases v p) r) → (∀ r, k ≤ r → r < hR v → MR f l s g b r (mst (Sg (House_set_phases v p) r) (-1) (cyc (House_set_phases v p)))) → ∃ f' l' s' g' b', Mod_layCycle_98 n (I (k : Int)) (ML M f l s g b) = some (ML M f' l' s' g' b') ∧ ∀ r, r < hR v → GM s' g' b' (House_set_phases v p) r := by
  have hR12 : hR v ≤ 12 := hn.2.2.1
  have hc1 := cyc_pos hw
  have hc2 := cyc_le hw
  generalize House_set_phases v p = w at *
  intro q
  induction q with
  | zero =>
    intro k n f l s g b hk hm h1 h2
    obtain ⟨n, rfl⟩ : ∃ q, n = q + 1 := ⟨n - 1, by omega⟩
    rw [Mod_layCycle_98, rooms_m (mv := ML M f l s g b) (rel_ML hr) hn, bind_s, if_pos (I_le_t (by omega) (by omega) (by omega))]
    exact ⟨f, l, s, g, b, rfl, fun r h => h1 r (by omega)⟩
  | succ q ih =>
    intro k n f l s g b hk hm h1 h2
    obtain ⟨n, rfl⟩ : ∃ q, n = q + 1 := ⟨n - 1, by omega⟩
    obtain ⟨e1, e2, e3, e4, e5⟩ := h2 k (Nat.le_refl k) (by omega)
    obtain ⟨a1, a2, a3, a4, a5, a6, a7, a8, a9⟩ := mst_b (Sg w k) (-1) (cyc w)
    obtain ⟨g1, g2⟩ := gapM_eq (Sg w k) (-1) hc1
    have hcnt : (mst (Sg w k) (-1) (cyc w)).2.2.2.2 = cntC (Sg w k) (cyc w) := (mst_cs (Sg w k) (-1) (cyc w)).2.1
    unfold gapM at g1
    unfold begM at g2
    rw [Mod_layCycle_98, rooms_m (mv := ML M f l s g b) (rel_ML hr) hn, bind_s, if_neg (I_le_f (by omega) (by omega) (by omega)), gd_I (by omega) (by omega) (by omega), I_clamp k (by omega), ML_f, e1, Im1]
    by_cases c : (mst (Sg w k) (-1) (cyc w)).1 = -1
    · rw [if_pos c] at g1 g2
      rw [if_pos (by rw [c]), nmL_e, I_succ]
      refine ih (k + 1) n f l s g b (by omega) (by omega) (fun r h => ?_) (fun r h => h2 r (by omega))
      by_cases hrk : r = k
      · subst hrk
        exact ⟨by rw [e3, g1], by rw [e5, hcnt], fun h => by rw [e4, g2 h]⟩
      · exact h1 r (by omega)
    · rw [if_neg c] at g1 g2
      have hx := a3 c
      rw [if_neg (I_ne c (by omega) (by omega) (by omega) (by omega)), nmL_e, ML_c, hc, ML_l, e2 c, I_sub, I1, I_sub, I_add, gd_t (nz_I (by omega) (by omega)), I_add, I_rem (by omega) (by omega) (by omega) (by omega)]
      have hm1 : 0 ≤ ((mst (Sg w k) (-1) (cyc w)).2.1 + 1) % (cyc w : Int) := Int.emod_nonneg _ (by omega)
      have hm2 : ((mst (Sg w k) (-1) (cyc w)).2.1 + 1) % (cyc w : Int) < cyc w := Int.emod_lt_of_pos _ (by omega)
      rw [endGap_m (by omega) (by omega) (by omega) (by omega) (by omega) (by omega) (by omega) (by omega) (by omega) e3 e4, bind_s, nmL_e, ← I1, I_succ]
      refine ih (k + 1) n _ _ _ _ _ (by omega) (by omega) (fun r h => ?_) (fun r h h' => MR_o (h2 r (by omega) h') rfl (upd_n (by omega)) rfl (upd_n (by omega)) (upd_n (by omega)))
      by_cases hrk : r = k
      · subst hrk
        exact ⟨by rw [upd_i, g1], by rw [e5, hcnt], fun h => by rw [upd_i, g2 h]⟩
      · obtain ⟨b1, b2, b3⟩ := h1 r (by omega)
        exact ⟨(upd_n hrk).trans b1, b2, fun h => (upd_n hrk).trans (b3 h)⟩
theorem lay54_m (hr : RelM (Model_now M) v) (hn : WFn v) (hv : WFG v) (hw : WFG (House_set_phases v p)) (hp : PhM M v (hF (House_set_phases v p))) (hc : Model_cycleNow M = I ((cyc (House_set_phases v p) : Nat) : Int)) : ∀ (q t n : Nat) (f l s g b : Nat → Int32), cyc (House_set_phases v p) = t + q → q < n → (∀ r, r < hR v → MR f l s g b r (mst (Sg (House_set_phases v p) r) (-1) t)) → ∃ f' l' s' g' b', Mod_layCycle_54 n (I (t : Int)) (ML M f l s g b) = some (ML M f' l' s' g' b') ∧ ∀ r, r < hR v → GM s' g' b' (House_set_phases v p) r := by
  have hR12 : hR v ≤ 12 := hn.2.2.1
  have hc2 := cyc_le hw
  intro q
  induction q with
  | zero =>
    intro t n f l s g b hk hm h1
    obtain ⟨n, rfl⟩ : ∃ q, n = q + 1 := ⟨n - 1, by omega⟩
    rw [Mod_layCycle_54, ML_c, hc, if_pos (I_le_t (by omega) (by omega) (by omega))]
    exact lay98_m hr hn hw hc (hR v) 0 FU f l s g b (by omega) (by unfold FU; omega) (fun r h => absurd h (by omega)) (fun r _ h => by
      have := h1 r h
      rw [show t = cyc (House_set_phases v p) by omega] at this
      exact this)
  | succ q ih =>
    intro t n f l s g b hk hm h1
    obtain ⟨n, rfl⟩ : ∃ q, n = q + 1 := ⟨n - 1, by omega⟩
    have hsl : seen (House_set_phases v p) t < 2 ^ hR v := seen_lt hw t
    have hsl2 : 2 ^ hR v ≤ 2 ^ 12 := Nat.pow_le_pow_right (by decide) hR12
    rw [Mod_layCycle_54, ML_c, hc, if_neg (I_le_f (by omega) (by omega) (by omega)), seenAt_m (mv := ML M f l s g b) (rel_ML hr) hn hv (ph_ML hp) (by omega), bind_s]
    rw [show seenP v (hF (House_set_phases v p)) t = seen (House_set_phases v p) t from rfl]
    obtain ⟨f', l', s', g', b', e, h2⟩ := lay68_m (m := M) (k := fun (x1 : Int32) (v0 : ModelV) => Mod_layCycle_54 n x1 v0) (t := t) (A := seen (House_set_phases v p) t) (R := hR v) (by omega) hsl (X := fun r => mst (Sg (House_set_phases v p) r) (-1) t) (fun r => mst_b _ _ _) FU (seen (House_set_phases v p) t) f l s g b (by unfold FU; omega) (by omega) (fun i hi => hi) (fun r h => by
      rw [Bool.and_not_self, if_neg (by decide)]
      exact h1 r h)
    rw [e]
    refine ih (t + 1) n f' l' s' g' b' (by omega) (by omega) (fun r h => ?_)
    have := h2 r h
    unfold mst
    rw [show (seen (House_set_phases v p) t).testBit r = Sg (House_set_phases v p) r t from rfl] at this
    cases hS : Sg (House_set_phases v p) r t
    · rw [hS, if_neg (by decide)] at this
      exact this
    · rw [hS, if_pos rfl] at this
      exact this
theorem lay10_m (hr : RelM (Model_now M) v) (hn : WFn v) (hv : WFG v) (hw : WFG (House_set_phases v p)) (hp : PhM M v (hF (House_set_phases v p))) (hc : Model_cycleNow M = I ((cyc (House_set_phases v p) : Nat) : Int)) : ∀ (q k n : Nat) (f l s g b : Nat → Int32), hR v = k + q → q < n → (∀ r, r < k → MR f l s g b r (mst (Sg (House_set_phases v p) r) (-1) 0)) → ∃ f' l' s' g' b', Mod_layCycle_10 n (I (k : Int)) (ML M f l s g b) = some (ML M f' l' s' g' b') ∧ ∀ r, r < hR v → GM s' g' b' (House_set_phases v p) r := by
  have hR12 : hR v ≤ 12 := hn.2.2.1
  intro q
  induction q with
  | zero =>
    intro k n f l s g b hk hm h1
    obtain ⟨n, rfl⟩ : ∃ q, n = q + 1 := ⟨n - 1, by omega⟩
    rw [Mod_layCycle_10, rooms_m (mv := ML M f l s g b) (rel_ML hr) hn, bind_s, if_pos (I_le_t (by omega) (by omega) (by omega))]
    have hc2 := cyc_le hw
    exact lay54_m hr hn hv hw hp hc _ 0 FU f l s g b (Nat.zero_add _).symm (by unfold FU; omega) (fun r h => h1 r (by omega))
  | succ q ih =>
    intro k n f l s g b hk hm h1
    obtain ⟨n, rfl⟩ : ∃ q, n = q + 1 := ⟨n - 1, by omega⟩
    rw [Mod_layCycle_10, rooms_m (mv := ML M f l s g b) (rel_ML hr) hn, bind_s, if_neg (I_le_f (by omega) (by omega) (by omega)), gd_I (by omega) (by omega) (by omega), nmL_e, nmL_e, nmL_e, nmL_e, nmL_e, I_clamp k (by omega), ML_f, ML_sf, ML_s, ML_ss, ML_g, ML_sg, ML_b, ML_sb, I_succ]
    refine ih (k + 1) n _ _ _ _ _ (by omega) (by omega) (fun r h => ?_)
    by_cases hrk : r = k
    · subst hrk
      exact ⟨upd_i, fun h => absurd rfl h, upd_i, upd_i, upd_i⟩
    · exact MR_o (h1 r (by omega)) (upd_n hrk) rfl (upd_n hrk) (upd_n hrk) (upd_n hrk)
/-- the sightings of the phases that are tried -/
theorem layCycle_m (hr : RelM (Model_now M) v) (hn : WFn v) (hv : WFG v) (hw : WFG (House_set_phases v p)) (hp : PhM M v (hF (House_set_phases v p))) : ∃ c f l s g b, Mod_layCycle M = some (ML (Model_set_cycleNow M c) f l s g b) ∧ c = I ((cyc (House_set_phases v p) : Nat) : Int) ∧ ∀ r, r < hR v → GM s g b (House_set_phases v p) r := by
  have hR12 : hR v ≤ 12 := hn.2.2.1
  obtain ⟨c, hc⟩ : ∃ c, c = I ((cyc (House_set_phases v p) : Nat) : Int) := ⟨_, rfl⟩
  have ecy : cyc (House_set_phases v p) = cyc v := rfl
  have hcy : Mod_cycle M = some c := by rw [hc, ecy]; exact cycle_m hr hn hv
  unfold Mod_layCycle
  rw [hcy, bind_s, nmL_e]
  have hc2 : Model_cycleNow (Model_set_cycleNow M c) = c := Mo_cycleNow_cycleNow M c
  have hr2 : Model_now (Model_set_cycleNow M c) = Model_now M := Mo_now_cycleNow M c
  have hp2 : Model_phases (Model_set_cycleNow M c) = Model_phases M := Mo_phases_cycleNow M c
  generalize hX : Model_set_cycleNow M c = X at hc2 hr2 hp2
  have h := lay10_m (M := X) (v := v) (p := p) (by rw [hr2]; exact hr) hn hv hw (fun g hg => by rw [hp2]; exact hp g hg) (hc2.trans hc) (hR v) 0 FU (Model_firstSeen X) (Model_latestSeen X) (Model_seenCount X) (Model_gap X) (Model_gapBegin X) (by omega) (by unfold FU; omega) (fun r h => absurd h (by omega))
  rw [ML_self] at h
  obtain ⟨f, l, s, g, b, e, h2⟩ := h
  exact ⟨c, f, l, s, g, b, by rw [hX]; exact e, hc, h2⟩
end
/-! the phases as they are -/
theorem takePhases_loop {M : ModelV} {v : HouseV} (hr : RelM (Model_now M) v) (hn : WFn v) : ∀ (q k n : Nat) (f : Nat → Int32), hG v = k + q → q < n → (∀ g, g < k → f g = House_phases v g) → ∃ f', Mod_takePhases_2 n (I (k : Int)) (Model_set_phases M f) = some (Model_set_phases M f') ∧ ∀ g, g < hG v → f' g = House_phases v g := by
  have hG4 : hG v ≤ 4 := hn.2.2.2.2.2.2.1
  intro q
  induction q with
  | zero =>
    intro k n f hk hm h1
    obtain ⟨n, rfl⟩ : ∃ q, n = q + 1 := ⟨n - 1, by omega⟩
    rw [Mod_takePhases_2, guards_m (mv := Model_set_phases M f) (rel_ph hr) hn, bind_s, if_pos (I_le_t (by omega) (by omega) (by omega))]
    exact ⟨f, rfl, fun r h => h1 r (by omega)⟩
  | succ q ih =>
    intro k n f hk hm h1
    obtain ⟨n, rfl⟩ : ∃ q, n = q + 1 := ⟨n - 1, by omega⟩
    rw [Mod_takePhases_2, guards_m (mv := Model_set_phases M f) (rel_ph hr) hn, bind_s, if_neg (I_le_f (by omega) (by omega) (by omega)), phaseOf_m (mv := Model_set_phases M f) (rel_ph hr) hn (by omega), bind_s, gd_I (by omega) (by omega) (by omega), nmL_e, nmL_e, I_clamp k (by omega), I_succ]
    refine ih (k + 1) n (upd f k (House_phases v k)) (by omega) (by omega) (fun r h => ?_)
    by_cases hrk : r = k
    · subst hrk; exact upd_i
    · exact (upd_n hrk).trans (h1 r (by omega))
theorem takePhases_m {M : ModelV} {v : HouseV} (hr : RelM (Model_now M) v) (hn : WFn v) : ∃ f, Mod_takePhases M = some (Model_set_phases M f) ∧ ∀ g, g < hG v → f g = House_phases v g := by
  have hG4 : hG v ≤ 4 := hn.2.2.2.2.2.2.1
  exact takePhases_loop hr hn (hG v) 0 FU (Model_phases M) (by omega) (by unfold FU; omega) (fun g h => absurd h (by omega))
theorem PhM.of {M : ModelV} {v : HouseV} (hw : WFG v) {f : Nat → Int32} (h : ∀ g, g < hG v → f g = House_phases v g) : PhM (Model_set_phases M f) v (hF v) := fun g hg => ⟨(h g hg).trans (hw g hg).2.2.1, (hw g hg).2.2.2⟩
/-- the sightings of the house as it is -/
theorem layNow_m {M : ModelV} {v : HouseV} (hr : RelM (Model_now M) v) (hn : WFn v) (hw : WFG v) : ∃ ph c f l s g b, Mod_layNow M = some (ML (Model_set_cycleNow (Model_set_phases M ph) c) f l s g b) ∧ c = I ((cyc v : Nat) : Int) ∧ PhM (Model_set_phases M ph) v (hF v) ∧ ∀ r, r < hR v → GM s g b v r := by
  obtain ⟨ph, e, h⟩ := takePhases_m (M := M) hr hn
  have hp := PhM.of (M := M) hw h
  obtain ⟨c, f, l, s, g, b, e2, hc, h2⟩ := layCycle_m (M := Model_set_phases M ph) (v := v) (p := House_phases v) (rel_ph hr) hn hw hw hp
  unfold Mod_layNow
  rw [e, bind_s, e2, bind_s]
  exact ⟨ph, c, f, l, s, g, b, rfl, hc, hp, h2⟩
section
variable {M : ModelV} {v w : HouseV} {f l s g b : Nat → Int32}
theorem worstLaid_loop (hr : RelM (Model_now M) v) (hn : WFn v) (hc : 1 ≤ cyc w) (hc2 : cyc w ≤ 2520) (hg : ∀ r, r < hR v → GM s g b w r) : ∀ (q k n : Nat), hR v = k + q → q < n → Mod_worstLaid_4 (ML M f l s g b) n (I (maxTo (fun r => gapC (Sg w r) (cyc w)) k)) (I (k : Int)) = some (I (maxTo (fun r => gapC (Sg w r) (cyc w)) (hR v))) := by
  have hR12 : hR v ≤ 12 := hn.2.2.1
  intro q
  induction q with
  | zero =>
    intro k n hk hm
    obtain ⟨n, rfl⟩ : ∃ q, n = q + 1 := ⟨n - 1, by omega⟩
    rw [Mod_worstLaid_4, rooms_m (mv := ML M f l s g b) (rel_ML hr) hn, bind_s, if_pos (I_le_t (by omega) (by omega) (by omega)), hk, Nat.add_zero]
  | succ q ih =>
    intro k n hk hm
    obtain ⟨n, rfl⟩ : ∃ q, n = q + 1 := ⟨n - 1, by omega⟩
    have hmb : 0 ≤ maxTo (fun r => gapC (Sg w r) (cyc w)) k ∧ maxTo (fun r => gapC (Sg w r) (cyc w)) k ≤ 2520 := maxTo_b (by omega) (fun i hi => by have := gapC_b (Sg w i) hc; omega)
    have hgb := gapC_b (Sg w k) hc
    rw [Mod_worstLaid_4, rooms_m (mv := ML M f l s g b) (rel_ML hr) hn, bind_s, if_neg (I_le_f (by omega) (by omega) (by omega)), gd_I (by omega) (by omega) (by omega), nmL_e, nmL_e, I_clamp k (by omega), ML_g, (hg k (by omega)).1, imax_I (by omega) (by omega) (by omega) (by omega), I_succ]
    exact ih (k + 1) n (by omega) (by omega)
theorem worstLaid_m (hr : RelM (Model_now M) v) (hn : WFn v) (hc : 1 ≤ cyc w) (hc2 : cyc w ≤ 2520) (hg : ∀ r, r < hR v → GM s g b w r) (hRw : hR w = hR v) : Mod_worstLaid (ML M f l s g b) = some (I (worst w)) := by
  have hR12 : hR v ≤ 12 := hn.2.2.1
  unfold Mod_worstLaid worst
  rw [hRw]
  exact worstLaid_loop hr hn hc hc2 hg (hR v) 0 FU (by omega) (by unfold FU; omega)
theorem isLate_m (hr : RelM (Model_now M) v) (hn : WFn v) (hw : WFG v) (hl : WFl v) (hg : ∀ r, r < hR v → GM s g b v r) {r : Nat} (h : r < hR v) : Mod_isLate (I (r : Int)) (ML M f l s g b) = some (late v r) := by
  have hR12 : hR v ≤ 12 := hn.2.2.1
  have hc1 := cyc_pos hw
  have hc2 := cyc_le hw
  have hgb := gapC_b (Sg v r) hc1
  obtain ⟨l1, l2⟩ := hl r (by omega)
  unfold Mod_isLate late
  rw [gd_I (by omega) (by omega) (by omega), I_clamp r (by omega), ML_g, (hg r h).1, Im1]
  by_cases c1 : gapC (Sg v r) (cyc v) = -1
  · rw [if_pos (by rw [c1]), decide_eq_true c1]; rfl
  · rw [if_neg (I_ne c1 (by omega) (by omega) (by omega) (by omega)), decide_eq_false c1, I_zero, ofRoom_m (mv := ML M f l s g b) (by omega) (by omega), bind_s, ML_now, Nat.add_zero, (hr.2.2.2.2.1 r (by omega)).1, l1]
    by_cases c2 : gapC (Sg v r) (cyc v) ≤ hL v r
    · rw [if_pos (I_le_t c2 (by omega) (by omega)), decide_eq_false (by omega)]; rfl
    · rw [if_neg (I_le_f (by omega) (by omega) (by omega)), decide_eq_true (by omega)]; rfl
theorem lateLaid_loop (hr : RelM (Model_now M) v) (hn : WFn v) (hw : WFG v) (hl : WFl v) (hg : ∀ r, r < hR v → GM s g b v r) : ∀ (q k n : Nat), hR v = k + q → q < n → Mod_lateLaid_4 (ML M f l s g b) n (I ((cnt (late v) k : Nat) : Int)) (I (k : Int)) = some (I ((cnt (late v) (hR v) : Nat) : Int)) := by
  have hR12 : hR v ≤ 12 := hn.2.2.1
  intro q
  induction q with
  | zero =>
    intro k n hk hm
    obtain ⟨n, rfl⟩ : ∃ q, n = q + 1 := ⟨n - 1, by omega⟩
    rw [Mod_lateLaid_4, rooms_m (mv := ML M f l s g b) (rel_ML hr) hn, bind_s, if_pos (I_le_t (by omega) (by omega) (by omega)), hk, Nat.add_zero]
  | succ q ih =>
    intro k n hk hm
    obtain ⟨n, rfl⟩ : ∃ q, n = q + 1 := ⟨n - 1, by omega⟩
    have := ih (k + 1) n (by omega) (by omega)
    rw [cnt] at this
    rw [Mod_lateLaid_4, rooms_m (mv := ML M f l s g b) (rel_ML hr) hn, bind_s, if_neg (I_le_f (by omega) (by omega) (by omega)), isLate_m hr hn hw hl hg (by omega), bind_s]
    cases hlt : late v k
    · rw [hlt, bif_f] at this
      rw [bif_f, nmL_e, nmL_e, I_succ, I0, I_add]
      exact this
    · rw [hlt, bif_t] at this
      rw [bif_t, nmL_e, nmL_e, I_succ, I_succ]
      exact this
theorem lateLaid_m (hr : RelM (Model_now M) v) (hn : WFn v) (hw : WFG v) (hl : WFl v) (hg : ∀ r, r < hR v → GM s g b v r) : Mod_lateLaid (ML M f l s g b) = some (I ((cnt (late v) (hR v) : Nat) : Int)) := by
  have hR12 : hR v ≤ 12 := hn.2.2.1
  unfold Mod_lateLaid
  exact lateLaid_loop hr hn hw hl hg (hR v) 0 FU (by omega) (by unfold FU; omega)
/-- the sum of f 0 .. f (n - 1) -/
def sumTo (f : Nat → Int) : Nat → Int
  | 0 => 0
  | k + 1 => sumTo f k + f k
theorem seenInCycle_loop (hr : RelM (Model_now M) v) (hn : WFn v) (hg : ∀ r, r < hR v → GM s g b w r) : ∀ (q k n : Nat), hR v = k + q → q < n → Mod_seenInCycle_4 (ML M f l s g b) n (I (sumTo (fun r => cntC (Sg w r) (cyc w)) k)) (I (k : Int)) = some (I (sumTo (fun r => cntC (Sg w r) (cyc w)) (hR v))) := by
  have hR12 : hR v ≤ 12 := hn.2.2.1
  intro q
  induction q with
  | zero =>
    intro k n hk hm
    obtain ⟨n, rfl⟩ : ∃ q, n = q + 1 := ⟨n - 1, by omega⟩
    rw [Mod_seenInCycle_4, rooms_m (mv := ML M f l s g b) (rel_ML hr) hn, bind_s, if_pos (I_le_t (by omega) (by omega) (by omega)), hk, Nat.add_zero]
  | succ q ih =>
    intro k n hk hm
    obtain ⟨n, rfl⟩ : ∃ q, n = q + 1 := ⟨n - 1, by omega⟩
    rw [Mod_seenInCycle_4, rooms_m (mv := ML M f l s g b) (rel_ML hr) hn, bind_s, if_neg (I_le_f (by omega) (by omega) (by omega)), gd_I (by omega) (by omega) (by omega), nmL_e, nmL_e, I_clamp k (by omega), ML_s, (hg k (by omega)).2.1, I_add, I_succ]
    exact ih (k + 1) n (by omega) (by omega)
theorem seenInCycle_m (hr : RelM (Model_now M) v) (hn : WFn v) (hg : ∀ r, r < hR v → GM s g b w r) : Mod_seenInCycle (ML M f l s g b) = some (I (sumTo (fun r => cntC (Sg w r) (cyc w)) (hR v))) := by
  have hR12 : hR v ≤ 12 := hn.2.2.1
  unfold Mod_seenInCycle
  exact seenInCycle_loop hr hn hg (hR v) 0 FU (by omega) (by unfold FU; omega)
end
theorem countSeen_loop {s : SightV} {v : HouseV} (hn : WFn v) (hs : SOK s v) : ∀ (m k n : Nat), hR v = k + m → m < n → Sight_countSeen_4 s v n (I (sumTo (fun r => cntC (Sg v r) (cyc v)) k)) (I (k : Int)) = some (I (sumTo (fun r => cntC (Sg v r) (cyc v)) (hR v))) := by
  have hR12 : hR v ≤ 12 := hn.2.2.1
  have eR : House_rooms v = I (hR v) := hn.1
  intro m
  induction m with
  | zero =>
    intro k n hk hm
    obtain ⟨n, rfl⟩ : ∃ q, n = q + 1 := ⟨n - 1, by omega⟩
    rw [Sight_countSeen_4, eR, if_pos (I_le_t (by omega) (by omega) (by omega)), hk, Nat.add_zero]
  | succ m ih =>
    intro k n hk hm
    obtain ⟨n, rfl⟩ : ∃ q, n = q + 1 := ⟨n - 1, by omega⟩
    rw [Sight_countSeen_4, eR, if_neg (I_le_f (by omega) (by omega) (by omega)), I12, if_neg (I_le_f (by omega) (by omega) (by omega)), gd_I (by omega) (by omega) (by omega), nmL_e, nmL_e, I_clamp k (by omega), (hs.1 k (by omega)).2.2, I_add, I_succ]
    exact ih (k + 1) n (by omega) (by omega)
theorem countSeen_s {s : SightV} {v : HouseV} (hn : WFn v) (hs : SOK s v) : Sight_countSeen s v = some (I (sumTo (fun r => cntC (Sg v r) (cyc v)) (hR v))) := by
  have hR12 : hR v ≤ 12 := hn.2.2.1
  unfold Sight_countSeen
  exact countSeen_loop hn hs (hR v) 0 FU (by omega) (by unfold FU; omega)
end LAY
