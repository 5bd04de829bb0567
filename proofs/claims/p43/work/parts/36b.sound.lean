section SOUND
variable {v : HouseV} {g : GWV}
theorem k0 : (0 : Int32) = I ((0 : Nat) : Int) := rfl
theorem k1 : (1 : Int32) = I ((1 : Nat) : Int) := rfl
theorem k2 : (2 : Int32) = I ((2 : Nat) : Int) := rfl
theorem k3 : (3 : Int32) = I ((3 : Nat) : Int) := rfl
theorem k4 : (4 : Int32) = I ((4 : Nat) : Int) := rfl
theorem k5 : (5 : Int32) = I ((5 : Nat) : Int) := rfl
theorem k6 : (6 : Int32) = I ((6 : Nat) : Int) := rfl
theorem k7 : (7 : Int32) = I ((7 : Nat) : Int) := rfl
theorem room_l0 {s : SightV} (hv : HOK v) (hms : MS s v) {r : Nat} (hr : r < hR v) : ∃ s', GW_room (I (r : Int)) 0 g v s = some (I (hL v r : Int), s') ∧ MSn s s' v := by
  obtain ⟨s', e, h⟩ := room_m (g := g) hv hms hr (k := 0) (by omega)
  exact ⟨s', (by rw [k0]; rw [e]; show some (House_limits v r, s') = _; rw [(hv.2.2.2.1 r (by have := hv.1.2.2.1; omega)).1]), h⟩
theorem room_l1 {s : SightV} (hv : HOK v) (hms : MS s v) {r : Nat} (hr : r < hR v) : ∃ s', GW_room (I (r : Int)) 1 g v s = some (I (gapC (Sg v r) (cyc v)), s') ∧ MSn s s' v := by
  obtain ⟨s', e, h⟩ := room_m (g := g) hv hms hr (k := 1) (by omega)
  exact ⟨s', (by rw [k1]; rw [e]; rfl), h⟩
theorem room_l2 {s : SightV} (hv : HOK v) (hms : MS s v) {r : Nat} (hr : r < hR v) : ∃ s', GW_room (I (r : Int)) 2 g v s = some (I ((bif late v r then 1 else 0 : Nat) : Int), s') ∧ MSn s s' v := by
  obtain ⟨s', e, h⟩ := room_m (g := g) hv hms hr (k := 2) (by omega)
  exact ⟨s', (by rw [k2]; rw [e]; rfl), h⟩
theorem room_l3 {s : SightV} (hv : HOK v) (hms : MS s v) {r : Nat} (hr : r < hR v) : ∃ s', GW_room (I (r : Int)) 3 g v s = some (I ((cnt (Sg v r) (cyc v) : Nat) : Int), s') ∧ MSn s s' v := by
  obtain ⟨s', e, h⟩ := room_m (g := g) hv hms hr (k := 3) (by omega)
  exact ⟨s', (by rw [k3]; rw [e]; show some (I (cntC (Sg v r) (cyc v)), s') = _; rw [cntC_e]), h⟩
theorem room_l4 {s : SightV} (hv : HOK v) (hms : MS s v) {r : Nat} (hr : r < hR v) : ∃ s', GW_room (I (r : Int)) 4 g v s = some (I (sN v r : Int), s') ∧ MSn s s' v := by
  obtain ⟨s', e, h⟩ := room_m (g := g) hv hms hr (k := 4) (by omega)
  exact ⟨s', (by rw [k4]; rw [e]; show some (House_sightings v r, s') = _; rw [(wfs_n hv (by have := hv.1.2.2.1; omega)).1]), h⟩
theorem room_l6 {s : SightV} (hv : HOK v) (hms : MS s v) {r : Nat} (hr : r < hR v) : ∃ s', GW_room (I (r : Int)) 6 g v s = some (I (uN v r : Int), s') ∧ MSn s s' v := by
  obtain ⟨s', e, h⟩ := room_m (g := g) hv hms hr (k := 6) (by omega)
  exact ⟨s', (by rw [k6]; rw [e]; show some (House_runs v r, s') = _; rw [(wfs_n hv (by have := hv.1.2.2.1; omega)).2.2.1]), h⟩
theorem room_l7 {s : SightV} (hv : HOK v) (hms : MS s v) {r : Nat} (hr : r < hR v) : ∃ s', GW_room (I (r : Int)) 7 g v s = some (I (gN v r : Int), s') ∧ MSn s s' v := by
  obtain ⟨s', e, h⟩ := room_m (g := g) hv hms hr (k := 7) (by omega)
  exact ⟨s', (by rw [k7]; rw [e]; show some (House_longestRuns v r, s') = _; rw [(wfs_n hv (by have := hv.1.2.2.1; omega)).2.2.2.2.1]), h⟩
theorem room_l5 {s : SightV} (hv : HOK v) (hms : MS s v) {r : Nat} (hr : r < hR v) : ∃ s', GW_room (I (r : Int)) 5 g v s = some (House_lastSeen v r, s') ∧ MSn s s' v := by
  obtain ⟨s', e, h⟩ := room_m (g := g) hv hms hr (k := 5) (by omega)
  exact ⟨s', (by rw [k5]; rw [e]; rfl), h⟩
theorem snd231 {s : SightV} (hx : HX v) (hms : MS s v) {r : Nat} (hr : r < hR v) {x1 x2 x3 : Int32} {iv : IntrV} (k11 : Int32 → Int32 → SightV → IntrV → Option (Bool × SightV × IntrV)) : ∃ s', MSn s s' v ∧ L_isSound_231 x1 g v k11 x2 x3 (I (r : Int)) s iv = k11 x3 (I ((r + 1 : Nat) : Int)) s' iv := by
  have hv := hx.1
  have hR12 := hv.1.2.2.1
  have hM : hM v ≤ 99999 := hv.1.2.2.2.2.2.2.2.2.1
  obtain ⟨z1, z2, z3, z4, z5, z6, d, z7, z8, z9⟩ := wfs_n hv (r := r) (by omega)
  have hle := hx.2.1 r (by omega)
  obtain ⟨s1, e1, m1⟩ := room_l6 (g := g) hv hms hr
  obtain ⟨s2, e2, m2⟩ := room_l7 (g := g) hv (m1.ms hms) hr
  obtain ⟨s3, e3, m3⟩ := room_l5 (g := g) hv (m2.ms (m1.ms hms)) hr
  refine ⟨s3, m1.trans (m2.trans m3), ?_⟩
  unfold L_isSound_231
  rw [e1, bind_s, e2, bind_s]
  dsimp only
  rw [if_neg (I_lt_f (by omega) (by omega) (by omega)), e3, bind_s, size_4, bind_s]
  dsimp only
  rw [z7, hv.1.2.2.2.2.2.2.2.1, if_pos (I_lt_t z9 (by omega) (by omega)), nmL_e, I_succ]
theorem snd150 (hv : HOK v) {r : Nat} (hr : r < hR v) {x1 x3 : Int32} {iv : IntrV} {b G : Nat} (hb : b < cyc v) (hG1 : 1 ≤ G) (hG2 : G + 1 ≤ cyc v) (h1 : ∀ i, i < G → Sg v r (b + i) = false) (h2 : Sg v r (b + G) = true) (h3 : Sg v r (b + (cyc v - 1)) = true) (s : SightV) (k11 : Int32 → Int32 → SightV → IntrV → Option (Bool × SightV × IntrV)) : ∀ (q k m : Nat), G = k + q → q < m → L_isSound_150 x1 g v (I (cyc v : Int)) x3 (I (r : Int)) (I (G : Int)) (I (b : Int)) k11 m (I (k : Int)) s iv = L_isSound_231 x1 g v k11 (I (cyc v : Int)) x3 (I (r : Int)) s iv := by
  have hc := cyc_le hv.2.2.2.2.1
  intro q
  induction q with
  | zero =>
    intro k m hk hm
    obtain ⟨m, rfl⟩ : ∃ q, m = q + 1 := ⟨m - 1, by omega⟩
    rw [L_isSound_150, if_pos (I_le_t (by omega) (by omega) (by omega)), if_neg (show ¬ I (G : Int) ≤ 0 from I_le_f (b := 0) (by omega) (by omega) (by omega)), I_add, ← Int.natCast_add, guardsIn_m hv hr (by omega), bind_s, if_neg (by rw [guardsIn_z hv, h2]; decide), I_add, I1, I_sub, show (b : Int) + (cyc v : Int) - 1 = ((b + (cyc v - 1) : Nat) : Int) by omega, guardsIn_m hv hr (by omega), bind_s, if_neg (by rw [guardsIn_z hv, h3]; decide), nextSeen_m hv hr (by omega) (m0 := G) (by omega) h2 h1, bind_s, if_pos rfl]
  | succ q ih =>
    intro k m hk hm
    obtain ⟨m, rfl⟩ : ∃ q, m = q + 1 := ⟨m - 1, by omega⟩
    rw [L_isSound_150, if_neg (I_le_f (by omega) (by omega) (by omega)), I_add, ← Int.natCast_add, guardsIn_m hv hr (by omega), bind_s, if_pos (by rw [guardsIn_z hv]; exact h1 k (by omega)), nmL_e, I_succ]
    exact ih (k + 1) m (by omega) (by omega)
/-- what a room tells is sound -/
theorem snd142 {s : SightV} (hx : HX v) (hms : MS s v) {r : Nat} (hr : r < hR v) {x1 x3 : Int32} {iv : IntrV} (k11 : Int32 → Int32 → SightV → IntrV → Option (Bool × SightV × IntrV)) (y : Int32) : ∃ s', MSn s s' v ∧ L_isSound_142 x1 g v k11 (I (cyc v : Int)) x3 (I (r : Int)) (I (gapC (Sg v r) (cyc v))) (I (begC (Sg v r) (cyc v))) y y s iv = k11 x3 (I ((r + 1 : Nat) : Int)) s' iv := by
  have hv := hx.1
  have hc := cyc_le hv.2.2.2.2.1
  have hc1 := cyc_pos hv.2.2.2.2.1
  have hper : ∀ t, Sg v r (t + cyc v) = Sg v r t := fun t => Sg_per r t
  have hgb := gapC_b (Sg v r) hc1
  obtain ⟨c1, c2⟩ := beg_char hc1 hper
  obtain ⟨s1, m1, e1⟩ := snd231 (g := g) hx hms hr (x1 := x1) (x2 := I (cyc v : Int)) (x3 := x3) (iv := iv) k11
  refine ⟨s1, m1, ?_⟩
  unfold L_isSound_142
  rw [if_pos rfl]
  by_cases c : 0 < gapC (Sg v r) (cyc v)
  · obtain ⟨b, G, b1, b2, b3, b4, b5, b6, b7, b8⟩ := c2 c
    rw [b1, b2, I_zero]
    exact (snd150 hv hr b3 b4 b5 b6 b7 b8 s k11 G 0 FU (by omega) (by unfold FU; omega)).trans e1
  · rw [show FU = (FU - 1) + 1 by unfold FU; omega, L_isSound_150, if_pos (show I (gapC (Sg v r) (cyc v)) ≤ 0 from I_le_t (b := 0) (by omega) (by omega) (by omega)), if_pos (show I (gapC (Sg v r) (cyc v)) ≤ 0 from I_le_t (b := 0) (by omega) (by omega) (by omega))]
    exact e1
theorem snd101 {s : SightV} (hx : HX v) (hms : MS s v) {r : Nat} (hr : r < hR v) {x1 x3 : Int32} {iv : IntrV} (k11 : Int32 → Int32 → SightV → IntrV → Option (Bool × SightV × IntrV)) (y : Int32) : ∃ s', MSn s s' v ∧ L_isSound_101 x1 g v k11 (I (cyc v : Int)) x3 (I (r : Int)) (I (gapC (Sg v r) (cyc v))) (I (begC (Sg v r) (cyc v))) y y s iv = k11 x3 (I ((r + 1 : Nat) : Int)) s' iv := by
  have hv := hx.1
  have hR12 := hv.1.2.2.1
  have hc := cyc_le hv.2.2.2.2.1
  have hc1 := cyc_pos hv.2.2.2.2.1
  have hgb := gapC_b (Sg v r) hc1
  have hl := hv.2.2.2.1 r (by omega)
  obtain ⟨s1, e1, m1⟩ := room_l2 (g := g) hv hms hr
  have e120 : ∃ s', MSn s1 s' v ∧ L_isSound_120 x1 g v k11 (I (cyc v : Int)) x3 (I (r : Int)) (I (gapC (Sg v r) (cyc v))) (I (begC (Sg v r) (cyc v))) (b2i (late v r)) s1 iv = k11 x3 (I ((r + 1 : Nat) : Int)) s' iv := by
    unfold L_isSound_120
    by_cases c : gapC (Sg v r) (cyc v) < 0
    · have hlate : late v r = true := by unfold late; rw [decide_eq_true (by omega), Bool.true_or]
      rw [if_pos (show I (gapC (Sg v r) (cyc v)) < 0 from I_lt_t (b := 0) (by omega) (by omega) (by omega)), hlate]
      unfold L_isSound_137
      exact snd142 hx (m1.ms hms) hr k11 1
    · obtain ⟨s2, e2, m2⟩ := room_l0 (g := g) hv (m1.ms hms) hr
      rw [if_neg (show ¬ I (gapC (Sg v r) (cyc v)) < 0 from I_lt_f (b := 0) (by omega) (by omega) (by omega)), e2, bind_s]
      dsimp only
      by_cases d : gapC (Sg v r) (cyc v) ≤ (hL v r : Int)
      · have hlate : late v r = false := by unfold late; rw [decide_eq_false (by omega), decide_eq_false (by omega)]; rfl
        obtain ⟨s3, m3, e3⟩ := snd142 (g := g) hx (m2.ms (m1.ms hms)) hr (x1 := x1) (x3 := x3) (iv := iv) k11 0
        rw [if_pos (I_le_t d (by omega) (by omega)), hlate]
        exact ⟨s3, m2.trans m3, e3⟩
      · have hlate : late v r = true := by unfold late; rw [decide_eq_true (p := (hL v r : Int) < gapC (Sg v r) (cyc v)) (by omega), Bool.or_true]
        obtain ⟨s3, m3, e3⟩ := snd142 (g := g) hx (m2.ms (m1.ms hms)) hr (x1 := x1) (x3 := x3) (iv := iv) k11 1
        rw [if_neg (I_le_f (by omega) (by omega) (by omega)), hlate]
        unfold L_isSound_137
        exact ⟨s3, m2.trans m3, e3⟩
  obtain ⟨s2, m2, e2⟩ := e120
  refine ⟨s2, m1.trans m2, ?_⟩
  unfold L_isSound_101
  rw [if_pos rfl, e1, bind_s]
  dsimp only
  cases hL : late v r
  · rw [hL] at e2
    rw [if_neg (by decide)]
    exact e2
  · rw [hL] at e2
    rw [if_pos (by decide)]
    exact e2
theorem snd55 {s : SightV} (hx : HX v) (hms : MS s v) {r : Nat} (hr : r < hR v) {x1 x3 : Int32} {iv : IntrV} (k11 : Int32 → Int32 → SightV → IntrV → Option (Bool × SightV × IntrV)) : ∃ s', MSn s s' v ∧ L_isSound_55 x1 g v k11 (I (cyc v : Int)) x3 (I (r : Int)) (I (gapC (Sg v r) (cyc v))) (I (begC (Sg v r) (cyc v))) (if 0 ≤ gapC (Sg v r) (cyc v) then 0 else 1) s iv = k11 x3 (I ((r + 1 : Nat) : Int)) s' iv := by
  have hv := hx.1
  have hR12 := hv.1.2.2.1
  have hc := cyc_le hv.2.2.2.2.1
  have hc1 := cyc_pos hv.2.2.2.2.1
  have hper : ∀ t, Sg v r (t + cyc v) = Sg v r t := fun t => Sg_per r t
  have hgb := gapC_b (Sg v r) hc1
  have hlt := gap_lt hc1 hper
  have hnv := gap_never hc1 hper
  have hcl := cnt_le (Sg v r) (cyc v)
  obtain ⟨c1, c2⟩ := beg_char hc1 hper
  obtain ⟨s1, e1, m1⟩ := room_l3 (g := g) hv hms hr
  obtain ⟨s2, m2, e2⟩ := snd101 (g := g) hx (m1.ms hms) hr (x1 := x1) (x3 := x3) (iv := iv) k11 (if 0 < gapC (Sg v r) (cyc v) then 1 else 0)
  refine ⟨s2, m1.trans m2, ?_⟩
  have e91 : ∀ y, y = (if 0 < gapC (Sg v r) (cyc v) then (1 : Int32) else 0) → L_isSound_91 x1 g v k11 (I (cyc v : Int)) x3 (I (r : Int)) (I (gapC (Sg v r) (cyc v))) (I (begC (Sg v r) (cyc v))) y s1 iv = k11 x3 (I ((r + 1 : Nat) : Int)) s2 iv := by
    intro y hy
    unfold L_isSound_91
    by_cases c : 0 < gapC (Sg v r) (cyc v)
    · obtain ⟨b, G, b1, b2, b3, -⟩ := c2 c
      rw [if_pos c] at e2 hy
      rw [if_neg (show ¬ I (begC (Sg v r) (cyc v)) < 0 from I_lt_f (b := 0) (by omega) (by omega) (by omega)), hy]
      exact e2
    · have hb := c1 (by omega)
      rw [if_neg c] at e2 hy
      rw [if_pos (show I (begC (Sg v r) (cyc v)) < 0 from I_lt_t (b := 0) (by omega) (by omega) (by omega)), hy]
      exact e2
  have e70 : ∀ y, L_isSound_70 x1 g v k11 (I (cyc v : Int)) x3 (I (r : Int)) (I (gapC (Sg v r) (cyc v))) (I (begC (Sg v r) (cyc v))) y y s1 iv = k11 x3 (I ((r + 1 : Nat) : Int)) s2 iv := by
    intro y
    unfold L_isSound_70
    rw [if_pos rfl, I1, I_sub, if_neg (I_lt_f hlt (by omega) (by omega))]
    by_cases c : 0 < gapC (Sg v r) (cyc v)
    · rw [if_neg (show ¬ I (gapC (Sg v r) (cyc v)) ≤ 0 from I_le_f (b := 0) (by omega) (by omega) (by omega))]
      exact e91 _ (by rw [if_pos c]; rfl)
    · rw [if_pos (show I (gapC (Sg v r) (cyc v)) ≤ 0 from I_le_t (b := 0) (by omega) (by omega) (by omega))]
      exact e91 _ (by rw [if_neg c])
  unfold L_isSound_55
  rw [e1, bind_s]
  dsimp only
  by_cases c : cnt (Sg v r) (cyc v) = 0
  · have := hnv.mpr c
    rw [c, if_pos (by decide), if_neg (by omega)]
    exact e70 1
  · have h0 : 0 ≤ gapC (Sg v r) (cyc v) := by
      apply Classical.byContradiction
      intro hne
      exact c (hnv.mp (by omega))
    rw [if_neg (show ¬ I ((cnt (Sg v r) (cyc v) : Nat) : Int) = 0 from I_ne (b := 0) (by omega) (by omega) (by omega) (by omega) (by omega)), if_pos h0]
    exact e70 0
theorem snd11 (hx : HX v) {x1 : Int32} {iv : IntrV} : ∀ (q r m : Nat) (s : SightV), hR v = r + q → q < m → MS s v → ∃ s', MSn s s' v ∧ L_isSound_11 x1 g v (I (cyc v : Int)) m (I (maxTo (fun r => gapC (Sg v r) (cyc v)) r)) (I (r : Int)) s iv = L_isSound_290 x1 g v FU 0 0 s' iv := by
  have hv := hx.1
  have hR12 := hv.1.2.2.1
  have hc := cyc_le hv.2.2.2.2.1
  have hc1 := cyc_pos hv.2.2.2.2.1
  have hb : ∀ k, 0 ≤ maxTo (fun r => gapC (Sg v r) (cyc v)) k ∧ maxTo (fun r => gapC (Sg v r) (cyc v)) k ≤ cyc v := fun k => maxTo_b (by omega) fun i _ => (gapC_b (Sg v i) hc1).2
  intro q
  induction q with
  | zero =>
    intro r m s hk hm hms
    obtain ⟨m, rfl⟩ : ∃ q, m = q + 1 := ⟨m - 1, by omega⟩
    obtain ⟨s1, e1, m1⟩ := size_5 (g := g) hv hms
    refine ⟨s1, m1, ?_⟩
    rw [L_isSound_11, size_0, bind_s]
    dsimp only
    rw [hv.1.1, if_pos (I_le_t (by omega) (by omega) (by omega)), e1, bind_s]
    dsimp only
    rw [if_pos (by rw [show r = hR v by omega]; rfl)]
  | succ q ih =>
    intro r m s hk hm hms
    obtain ⟨m, rfl⟩ : ∃ q, m = q + 1 := ⟨m - 1, by omega⟩
    have hr : r < hR v := by omega
    have hgb := gapC_b (Sg v r) hc1
    have hbr := hb r
    obtain ⟨s1, e1, m1⟩ := room_l1 (g := g) hv hms hr
    obtain ⟨s2, e2, m2⟩ := gapFrom_m (g := g) hv (m1.ms hms) hr
    obtain ⟨s3, m3, e3⟩ := snd55 (g := g) hx (m2.ms (m1.ms hms)) hr (x1 := x1) (x3 := I (maxTo (fun r => gapC (Sg v r) (cyc v)) (r + 1))) (iv := iv) (fun x3 x4 v2 v3 => L_isSound_11 x1 g v (I (cyc v : Int)) m x3 x4 v2 v3)
    obtain ⟨s4, m4, e4⟩ := ih (r + 1) m s3 (by omega) (by omega) (m3.ms (m2.ms (m1.ms hms)))
    refine ⟨s4, m1.trans (m2.trans (m3.trans m4)), ?_⟩
    rw [L_isSound_11, size_0, bind_s]
    dsimp only
    rw [hv.1.1, if_neg (I_le_f (by omega) (by omega) (by omega)), e1, bind_s]
    dsimp only
    rw [e2, bind_s]
    dsimp only
    rw [nmL_e, imax_I (by omega) (by omega) (by omega) (by omega)]
    refine Eq.trans ?_ e4
    refine Eq.trans ?_ e3
    by_cases c : 0 ≤ gapC (Sg v r) (cyc v)
    · rw [if_pos (show (0 : Int32) ≤ I (gapC (Sg v r) (cyc v)) from I_le_t (a := 0) c (by omega) (by omega)), if_pos c]
      rfl
    · rw [if_neg (show ¬ (0 : Int32) ≤ I (gapC (Sg v r) (cyc v)) from I_le_f (a := 0) (by omega) (by omega) (by omega)), if_neg c]
      rfl
/-! the guards -/
theorem snd303 (hv : HOK v) {x1 : Int32} {iv : IntrV} {s : SightV} {a : Nat} (ha : a < hG v) {A : Int} (k290 : Int32 → Int32 → SightV → IntrV → Option (Bool × SightV × IntrV)) : ∀ (q b m : Nat), a = b + q → q < m → L_isSound_303 x1 g v (I (a : Int)) k290 m (I (A + inM (fun a b => pairTo v a b 1 1 (cyc v)) a b)) (I (b : Int)) s iv = L_isSound_350 x1 g v (I (A + inM (fun a b => pairTo v a b 1 1 (cyc v)) a a)) (I (a : Int)) (I (hP v a : Int)) k290 FU 0 s iv := by
  have hG4 := hv.1.2.2.2.2.2.2.1
  have eg : GW_guard (I (a : Int)) 0 g v = some (I (hP v a : Int)) := by
    rw [k0, guard_m hv ha (k := 0) (by omega)]
    show some (House_periods v a) = _
    rw [(hv.2.2.2.2.1 a ha).1.1]
  intro q
  induction q with
  | zero =>
    intro b m hk hm
    obtain ⟨m, rfl⟩ : ∃ q, m = q + 1 := ⟨m - 1, by omega⟩
    rw [L_isSound_303, if_pos (I_le_t (by omega) (by omega) (by omega)), eg, bind_s, show b = a by omega]
  | succ q ih =>
    intro b m hk hm
    obtain ⟨m, rfl⟩ : ∃ q, m = q + 1 := ⟨m - 1, by omega⟩
    have hh := ih (b + 1) m (by omega) (by omega)
    rw [inM, pair_mp, ← Int.add_assoc] at hh
    rw [L_isSound_303, if_neg (I_le_f (by omega) (by omega) (by omega)), meetings_m hv ha (by omega), bind_s, passings_m hv ha (by omega), bind_s, if_neg (by omega), if_neg (by omega), nmL_e, nmL_e, I_add, I_add, I_succ]
    exact hh
theorem snd350 (hx : HX v) {x1 x4 : Int32} {iv : IntrV} {s : SightV} {a : Nat} (ha : a < hG v) (k290 : Int32 → Int32 → SightV → IntrV → Option (Bool × SightV × IntrV)) : ∀ (q k m : Nat), hP v a = k + q → q < m → L_isSound_350 x1 g v x4 (I (a : Int)) (I (hP v a : Int)) k290 m (I (k : Int)) s iv = k290 x4 (I ((a + 1 : Nat) : Int)) s iv := by
  have hv := hx.1
  have hR12 := hv.1.2.2.1
  have hp := hv.2.2.2.2.1.per a ha
  obtain ⟨w1, w2, w3, w4⟩ := hv.2.2.2.2.1 a ha
  have eg : GW_guard (I (a : Int)) 1 g v = some (I (hF v a : Int)) := by
    rw [k1, guard_m hv ha (k := 1) (by omega)]
    show some (House_phases v a) = _
    rw [w3]
  intro q
  induction q with
  | zero =>
    intro k m hk hm
    obtain ⟨m, rfl⟩ : ∃ q, m = q + 1 := ⟨m - 1, by omega⟩
    rw [L_isSound_350, if_pos (I_le_t (by omega) (by omega) (by omega)), nmL_e, I_succ]
  | succ q ih =>
    intro k m hk hm
    obtain ⟨m, rfl⟩ : ∃ q, m = q + 1 := ⟨m - 1, by omega⟩
    have hh := ih (k + 1) m (by omega) (by omega)
    have hml : (k + 1) % hP v a < hP v a := Nat.mod_lt _ (by omega)
    have hml2 : (k + hF v a) % hP v a < hP v a := Nat.mod_lt _ (by omega)
    have hkl : k < hP v a := by omega
    obtain ⟨y1, y2⟩ := w1.2.2.1 k hkl
    obtain ⟨z1, z2⟩ := w1.2.2.1 _ hml
    have e400 : ∀ k350 : Int32 → SightV → IntrV → Option (Bool × SightV × IntrV), L_isSound_400 x1 g v k290 k350 x4 (I (a : Int)) (I (hP v a : Int)) (I (k : Int)) s iv = k350 (I ((k + 1 : Nat) : Int)) s iv := by
      intro k350
      unfold L_isSound_400
      rw [roomOf_m hv ha (by omega), bind_s, eg, bind_s, gd_t (nz_I (by omega) (by omega)), I_add, ← Int.natCast_add, I_rem (by omega) (by omega) (by omega) (by omega), ← Int.natCast_emod, walk_m hv ha hml2, bind_s, if_pos (by
        unfold place
        rw [Nat.mod_add_mod]), nmL_e, I_succ]
    rw [L_isSound_350, if_neg (I_le_f (by omega) (by omega) (by omega)), walk_m hv ha hkl, bind_s, gd_t (nz_I (by omega) (by omega)), I_succ, I_rem (by omega) (by omega) (by omega) (by omega), ← Int.natCast_emod, walk_m hv ha hml, bind_s]
    have hgo := hx.2.2 a ha k hkl
    by_cases c : hW v a k = hW v a ((k + 1) % hP v a)
    · rw [if_pos (by rw [c]), e400]
      exact hh
    · have hj : (jm v (hW v a k)).testBit (hW v a ((k + 1) % hP v a)) = true := by
        unfold go at hgo
        rw [decide_eq_false c, Bool.false_or] at hgo
        exact hgo
      rw [if_neg (I_ne (by omega) (by omega) (by omega) (by omega) (by omega)), isJoined_m hv y2 z2, bind_s, hj, bif_t, e400]
      exact hh
theorem snd290 (hx : HX v) {x1 : Int32} {iv : IntrV} {s : SightV} : ∀ (q a m : Nat), hG v = a + q → q < m → L_isSound_290 x1 g v m (I (crM (fun a b => pairTo v a b 1 1 (cyc v)) a)) (I (a : Int)) s iv = L_isSound_460 x1 g v FU 0 s iv := by
  have hv := hx.1
  have hG4 := hv.1.2.2.2.2.2.2.1
  intro q
  induction q with
  | zero =>
    intro a m hk hm
    obtain ⟨m, rfl⟩ : ∃ q, m = q + 1 := ⟨m - 1, by omega⟩
    rw [L_isSound_290, size_2, bind_s]
    dsimp only
    rw [hv.1.2.2.2.2.2.1, if_pos (I_le_t (by omega) (by omega) (by omega)), size_7 hv, bind_s]
    dsimp only
    rw [if_pos (by rw [show a = hG v by omega]; rfl)]
  | succ q ih =>
    intro a m hk hm
    obtain ⟨m, rfl⟩ : ∃ q, m = q + 1 := ⟨m - 1, by omega⟩
    have ha : a < hG v := by omega
    have hp := hv.2.2.2.2.1.per a ha
    have hh := ih (a + 1) m (by omega) (by omega)
    rw [crM] at hh
    have e1 := snd303 (g := g) hv (x1 := x1) (iv := iv) (s := s) ha (A := crM (fun a b => pairTo v a b 1 1 (cyc v)) a) (fun x4 x5 v2 v3 => L_isSound_290 x1 g v m x4 x5 v2 v3) a 0 FU (by omega) (by unfold FU; omega)
    rw [inM, Int.add_zero] at e1
    have e2 := snd350 (g := g) hx (x1 := x1) (x4 := I (crM (fun a b => pairTo v a b 1 1 (cyc v)) a + inM (fun a b => pairTo v a b 1 1 (cyc v)) a a)) (iv := iv) (s := s) ha (fun x4 x5 v2 v3 => L_isSound_290 x1 g v m x4 x5 v2 v3) (hP v a) 0 FU (by omega) (by unfold FU; omega)
    rw [L_isSound_290, size_2, bind_s]
    dsimp only
    rw [hv.1.2.2.2.2.2.1, if_neg (I_le_f (by omega) (by omega) (by omega))]
    exact e1.trans (e2.trans hh)
/-! the doors -/
theorem joined_open (hv : HOK v) {d : Nat} (hd : d < hD v) (ho : opn v d = true) : (jm v (hA v d)).testBit (hB v d) = true := by
  rw [jm_bit]
  refine ⟨d, hd, ho, ?_⟩
  unfold btw
  rw [decide_eq_true rfl, decide_eq_true rfl]; rfl
theorem joined_thr (hx : HX v) {d : Nat} (hd : d < hD v) (ht : 0 < cnt (thr v (hA v d) (hB v d)) (hG v)) : (jm v (hA v d)).testBit (hB v d) = true := by
  obtain ⟨q, hq, h1⟩ := cnt_pos.mp ht
  have hp := hx.1.2.2.2.2.1.per q hq
  rw [thr_m hp.1, decide_eq_true_iff, cnt_pos] at h1
  obtain ⟨s, hs, h2⟩ := h1
  have hne := (hx.1.2.1 d hd).2.2.2.2
  have hgo := hx.2.2 q hq s hs
  rw [go_iff] at hgo
  unfold eM edge at h2
  rw [Bool.or_eq_true, Bool.and_eq_true, Bool.and_eq_true, decide_eq_true_iff, decide_eq_true_iff, decide_eq_true_iff, decide_eq_true_iff] at h2
  rw [jm_bit]
  rcases hgo with h | ⟨e, e1, e2, e3⟩
  · rcases h2 with ⟨a1, a2⟩ | ⟨a1, a2⟩
    · exact absurd (a1.symm.trans (h.trans a2)) hne
    · exact absurd (a2.symm.trans (h.symm.trans a1)) hne
  · refine ⟨e, e1, e2, ?_⟩
    unfold btw at e3 ⊢
    rw [Bool.or_eq_true, Bool.and_eq_true, Bool.and_eq_true, decide_eq_true_iff, decide_eq_true_iff, decide_eq_true_iff, decide_eq_true_iff] at e3 ⊢
    rcases h2 with ⟨a1, a2⟩ | ⟨a1, a2⟩
    · rw [← a1, ← a2]; exact e3
    · rw [← a1, ← a2]; exact e3.symm
theorem snd460 (hx : HX v) {x1 : Int32} {s : SightV} (iv : IntrV) : ∀ (q d m : Nat), hD v = d + q → q < m → ∃ iv', L_isSound_460 x1 g v m (I (d : Int)) s iv = some (true, s, iv') := by
  have hv := hx.1
  have hD20 := hv.1.2.2.2.2.1
  have hG4 := hv.1.2.2.2.2.2.2.1
  intro q
  induction q with
  | zero =>
    intro d m hk hm
    obtain ⟨m, rfl⟩ : ∃ q, m = q + 1 := ⟨m - 1, by omega⟩
    obtain ⟨iv', e⟩ := isQuick_s (g := g) (s := s) hv x1 iv
    refine ⟨iv', ?_⟩
    rw [L_isSound_460, size_1, bind_s]
    dsimp only
    rw [hv.1.2.2.2.1, if_pos (I_le_t (by omega) (by omega) (by omega)), e, bind_s]
  | succ q ih =>
    intro d m hk hm
    obtain ⟨m, rfl⟩ : ∃ q, m = q + 1 := ⟨m - 1, by omega⟩
    have hd : d < hD v := by omega
    obtain ⟨iv', hh⟩ := ih (d + 1) m (by omega) (by omega)
    obtain ⟨y1, y2, y3, y4, y5⟩ := hv.2.1 d hd
    have hcl := cnt_le (thr v (hA v d) (hB v d)) (hG v)
    have e0 : GW_door (I (d : Int)) 0 g v = some (I (hA v d : Int)) := by
      rw [k0, door_m hv hd (k := 0) (by omega)]; show some (House_doorFirst v d) = _; rw [y1]
    have e1 : GW_door (I (d : Int)) 1 g v = some (I (hB v d : Int)) := by
      rw [k1, door_m hv hd (k := 1) (by omega)]; show some (House_doorSecond v d) = _; rw [y3]
    have e2 : GW_door (I (d : Int)) 2 g v = some (I ((bif opn v d then 1 else 0 : Nat) : Int)) := by
      rw [k2, door_m hv hd (k := 2) (by omega)]; rfl
    have e3 : GW_door (I (d : Int)) 3 g v = some (I ((cnt (thr v (hA v d) (hB v d)) (hG v) : Nat) : Int)) := by
      rw [k3, door_m hv hd (k := 3) (by omega)]; rfl
    have e502 : ∀ k460 : Int32 → SightV → IntrV → Option (Bool × SightV × IntrV), L_isSound_502 x1 g v k460 (I (d : Int)) s iv = k460 (I ((d + 1 : Nat) : Int)) s iv := by
      intro k460
      unfold L_isSound_502
      rw [e3, bind_s]
      by_cases c : cnt (thr v (hA v d) (hB v d)) (hG v) = 0
      · rw [c, if_pos (by decide), nmL_e, I_succ]
      · rw [if_neg (show ¬ I ((cnt (thr v (hA v d) (hB v d)) (hG v) : Nat) : Int) ≤ 0 from I_le_f (b := 0) (by omega) (by omega) (by omega)), e0, bind_s, e1, bind_s, isJoined_m hv y2 y4, bind_s, joined_thr hx hd (by omega), bif_t, nmL_e, I_succ]
    refine ⟨iv', ?_⟩
    rw [L_isSound_460, size_1, bind_s]
    dsimp only
    rw [hv.1.2.2.2.1, if_neg (I_le_f (by omega) (by omega) (by omega)), e2, bind_s]
    cases ho : opn v d
    · rw [if_neg (by decide), e502]
      exact hh
    · rw [if_pos (by decide), e0, bind_s, e1, bind_s, isJoined_m hv y2 y4, bind_s, joined_open hv hd ho, bif_t, e502]
      exact hh
/-- what a house tells is sound -/
theorem isSound_s (hx : HX v) {s : SightV} (hms : MS s v) (x1 : Int32) (iv : IntrV) : ∃ s' iv', L_isSound x1 g v s iv = some (true, s', iv') ∧ MSn s s' v := by
  have hv := hx.1
  obtain ⟨s1, m1, e1⟩ := snd11 (g := g) hx (x1 := x1) (iv := iv) (hR v) 0 FU s (by omega) (by unfold FU; have := hv.1.2.2.1; omega) hms
  have e2 := snd290 (g := g) hx (x1 := x1) (iv := iv) (s := s1) (hG v) 0 FU (by omega) (by unfold FU; have := hv.1.2.2.2.2.2.2.1; omega)
  obtain ⟨iv', e3⟩ := snd460 (g := g) hx (x1 := x1) (s := s1) iv (hD v) 0 FU (by omega) (by unfold FU; have := hv.1.2.2.2.2.1; omega)
  refine ⟨s1, iv', ?_, m1⟩
  unfold L_isSound
  rw [size_3 hv, bind_s]
  dsimp only
  exact e1.trans (e2.trans e3)
end SOUND
