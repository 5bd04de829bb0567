section PASSED
variable {v w : HouseV} {g : GWV} {Φ Ψ : Nat → HouseV} {ls : Nat}
theorem mod_mix (M x i c : Nat) : (M + (x % c + i)) % c = (M % c + x + i) % c := by
  have e1 := Nat.div_add_mod M c
  have e2 := Nat.div_add_mod x c
  have a1 : M + (x % c + i) = M % c + x % c + i + c * (M / c) := by omega
  have a2 : M % c + x + i = M % c + x % c + i + c * (x / c) := by omega
  rw [a1, a2, Nat.add_mul_mod_self_left, Nat.add_mul_mod_self_left]
/-- the run behind so many minutes: of the unseen ones at the end, and of what it was, if there are no others -/
theorem rsN_run (S : Nat → Bool) (b c : Nat) : ∀ n, ∃ L, L ≤ n ∧ (∀ i, i < L → S (n - L + i) = false) ∧ ((L = n ∧ (rsN S b c n).1 = b + n) ∨ (rsN S b c n).1 = L)
  | 0 => ⟨0, Nat.le_refl _, fun i hi => absurd hi (by omega), Or.inl ⟨rfl, rfl⟩⟩
  | n + 1 => by
    obtain ⟨L, h1, h2, h3⟩ := rsN_run S b c n
    rw [rsN]
    cases hs : S n
    · rw [bif_f]
      refine ⟨L + 1, by omega, fun i hi => ?_, ?_⟩
      · by_cases e : i = L
        · rw [show n + 1 - (L + 1) + i = n by omega]; exact hs
        · rw [show n + 1 - (L + 1) + i = n - L + i by omega]; exact h2 i (by omega)
      · rcases h3 with ⟨e1, e2⟩ | e
        · exact Or.inl ⟨by omega, by show (rsN S b c n).1 + 1 = b + (n + 1); omega⟩
        · exact Or.inr (by show (rsN S b c n).1 + 1 = L + 1; omega)
    · rw [bif_t]
      exact ⟨0, by omega, fun i hi => absurd hi (by omega), Or.inr rfl⟩
theorem rsN_hi {S : Nat → Bool} {b c G N : Nat} (h : ∀ a L, a + L ≤ N → (∀ i, i < L → S (a + i) = false) → L ≤ G) : ∀ n, n ≤ N → (rsN S b c n).2 ≤ max c (b + G)
  | 0, _ => by show c ≤ _; omega
  | n + 1, hn => by
    have ih := rsN_hi (b := b) (c := c) h n (by omega)
    obtain ⟨L, h1, h2, h3⟩ := rsN_run S b c (n + 1)
    have hL := h (n + 1 - L) L (by omega) h2
    rw [rsN] at h3 ⊢
    cases hs : S n
    · rw [hs, bif_f] at h3
      rw [bif_f]
      show max (rsN S b c n).2 ((rsN S b c n).1 + 1) ≤ _
      have h4 : (rsN S b c n).1 + 1 = b + (n + 1) ∧ L = n + 1 ∨ (rsN S b c n).1 + 1 = L := by
        rcases h3 with ⟨e1, e2⟩ | e
        · exact Or.inl ⟨e2, e1⟩
        · exact Or.inr e
      omega
    · rw [bif_t]
      exact ih
theorem rsN_mono (S : Nat → Bool) (b c n : Nat) : ∀ j, (rsN S b c n).2 ≤ (rsN S b c (n + j)).2
  | 0 => Nat.le_refl _
  | j + 1 => by
    have ih := rsN_mono S b c n j
    rw [← Nat.add_assoc, rsN]
    cases S (n + j)
    · rw [bif_f]; show _ ≤ max _ _; omega
    · rw [bif_t]; exact ih
theorem rsN_lo {S : Nat → Bool} {b c a : Nat} (hbc : b ≤ c) : ∀ G, (∀ i, i < G → S (a + i) = false) → G ≤ (rsN S b c (a + G)).1
  | 0, _ => Nat.zero_le _
  | G + 1, h => by
    have ih := rsN_lo (b := b) (c := c) hbc G fun i hi => h i (by omega)
    rw [← Nat.add_assoc, rsN, h G (by omega), bif_f]
    show G + 1 ≤ (rsN S b c (a + G)).1 + 1
    omega
theorem rsN_lo2 {S : Nat → Bool} {b c a G N : Nat} (hbc : b ≤ c) (hN : a + G ≤ N) (h : ∀ i, i < G → S (a + i) = false) : G ≤ (rsN S b c N).2 := by
  have h1 := rsN_lo (b := b) (c := c) hbc G h
  have h2 := rsN_le (S := S) hbc (a + G)
  have h3 := rsN_mono S b c (a + G) (N - (a + G))
  rw [show a + G + (N - (a + G)) = N by omega] at h3
  omega
/-- the sightings of two cycles -/
theorem cnt_two_cycles {S : Nat → Bool} {n M : Nat} (hp : ∀ t, S (t + n) = S t) : cnt (fun j => S (M + j)) (2 * n) = 2 * cnt S n := by
  have h1 : cnt (fun j => S (M + j)) n = cnt S n := by
    rw [← cnt_shift hp M]
    exact cnt_congr fun j _ => by show S (M + j) = S (j + M); rw [Nat.add_comm]
  have h2 : cnt (fun i => S (M + (n + i))) n = cnt (fun j => S (M + j)) n := cnt_congr fun i _ => by
    show S (M + (n + i)) = S (M + i)
    rw [show M + (n + i) = M + i + n by omega, hp]
  rw [show 2 * n = n + n by omega, cnt_add]
  show cnt (fun j => S (M + j)) n + cnt (fun i => S (M + (n + i))) n = 2 * cnt S n
  rw [h2, h1]
  omega
theorem sumN_cnt (p : Nat → Bool) (n : Nat) : cnt p n = sumN (fun r => bif p r then 1 else 0) n := by
  induction n with
  | zero => rfl
  | succ n ih => rw [cnt, sumN, ih]
theorem sumN_addf (f h : Nat → Nat) (n : Nat) : sumN (fun r => f r + h r) n = sumN f n + sumN h n := by
  induction n with
  | zero => rfl
  | succ n ih => rw [sumN, sumN, sumN, ih]; omega
theorem sumN_congr {f h : Nat → Nat} {n : Nat} (e : ∀ r, r < n → f r = h r) : sumN f n = sumN h n := by
  induction n with
  | zero => rfl
  | succ n ih => rw [sumN, sumN, ih fun r hr => e r (by omega), e n (by omega)]
theorem psum_swap (v : HouseV) (M n : Nat) : psum v M n = sumN (fun r => cnt (fun j => Sg v r (M + j)) n) (hR v) := by
  induction n with
  | zero =>
    have : ∀ k, sumN (fun r => cnt (fun j => Sg v r (M + j)) 0) k = 0 := by
      intro k
      induction k with
      | zero => rfl
      | succ k ih => rw [sumN, ih]; rfl
    rw [this]; rfl
  | succ n ih =>
    rw [psum, ih, sumN_cnt, ← sumN_addf]
    exact sumN_congr fun r _ => rfl
/-- gathering what is due -/
theorem pd42 (hx : HX v) {x1 : Int64} {y : HistV} {e : Nat → HouseV} {c2 s2 : Nat} : ∀ (q k m : Nat) (s : SightV) (w0 w1 w2 : Nat → Int32), hR v = k + q → q < m → MS s v → (∀ r, r < k → w0 r = I (uN v r : Int) ∧ w1 r = I (gN v r : Int) ∧ w2 r = I (sN v r : Int)) → ∃ s' w0' w1' w2', MSn s s' v ∧ (∀ r, r < hR v → w0' r = I (uN v r : Int) ∧ w1' r = I (gN v r : Int) ∧ w2' r = I (sN v r : Int)) ∧ L_isPassed_42 g x1 (I (cyc v : Int)) (I (hR v : Int)) m (I ((2 * sumN (fun r => cnt (Sg v r) (cyc v)) k : Nat) : Int)) (I (k : Int)) v y e s (hR v) w0 (hR v) w1 (hR v) w2 c2 s2 = (Option.bind (GW_pass (2 * I (cyc v : Int)) g v y e) fun p111 => if p111.1 = I ((2 * sumN (fun r => cnt (Sg v r) (cyc v)) (hR v) : Nat) : Int) then L_isPassed_124 g x1 (I (cyc v : Int)) (I (hR v : Int)) FU 0 p111.2.1 p111.2.2.1 p111.2.2.2 s' (hR v) w0' (hR v) w1' (hR v) w2' c2 s2 else some (false, p111.2.1, p111.2.2.1, p111.2.2.2, s')) := by
  have hv := hx.1
  have hR12 := hv.1.2.2.1
  intro q
  induction q with
  | zero =>
    intro k m s w0 w1 w2 hk hm hms hw
    obtain ⟨m, rfl⟩ : ∃ q, m = q + 1 := ⟨m - 1, by omega⟩
    refine ⟨s, w0, w1, w2, MSn.refl s v, fun r hr => hw r (by omega), ?_⟩
    rw [L_isPassed_42, if_pos (I_le_t (by omega) (by omega) (by omega)), show k = hR v by omega]
  | succ q ih =>
    intro k m s w0 w1 w2 hk hm hms hw
    obtain ⟨m, rfl⟩ : ∃ q, m = q + 1 := ⟨m - 1, by omega⟩
    have hr : k < hR v := by omega
    obtain ⟨s1, e1, m1⟩ := room_l3 (g := g) hv hms hr
    have h1 := m1.ms hms
    obtain ⟨s2', e2, m2⟩ := room_l6 (g := g) hv h1 hr
    have h2 := m2.ms h1
    obtain ⟨s3, e3, m3⟩ := room_l7 (g := g) hv h2 hr
    have h3 := m3.ms h2
    obtain ⟨s4, e4, m4⟩ := room_l4 (g := g) hv h3 hr
    obtain ⟨s5, w0', w1', w2', m5, f1, f2⟩ := ih (k + 1) m s4 (upd w0 k (I (uN v k : Int))) (upd w1 k (I (gN v k : Int))) (upd w2 k (I (sN v k : Int))) (by omega) (by omega) (m4.ms h3) (fun r hr => by
      by_cases c : r = k
      · rw [c, upd_i, upd_i, upd_i]; exact ⟨rfl, rfl, rfl⟩
      · rw [upd_n c, upd_n c, upd_n c]; exact hw r (by omega))
    refine ⟨s5, w0', w1', w2', m1.trans (m2.trans (m3.trans (m4.trans m5))), f1, ?_⟩
    rw [sumN, show 2 * (sumN (fun r => cnt (Sg v r) (cyc v)) k + cnt (Sg v k) (cyc v)) = 2 * sumN (fun r => cnt (Sg v r) (cyc v)) k + 2 * cnt (Sg v k) (cyc v) by omega] at f2
    rw [L_isPassed_42, if_neg (I_le_f (by omega) (by omega) (by omega)), e1, bind_s]
    dsimp only
    rw [nmL_e, e2, bind_s]
    dsimp only
    rw [gd_I (by omega) (by omega) (by omega), nmL_e, e3, bind_s]
    dsimp only
    rw [gd_I (by omega) (by omega) (by omega), nmL_e, e4, bind_s]
    dsimp only
    rw [gd_I (by omega) (by omega) (by omega), nmL_e, nmL_e, I_clamp k (by omega), I_succ, I2, I_mul, I_add, show ((2 * sumN (fun r => cnt (Sg v r) (cyc v)) k : Nat) : Int) + 2 * ((cnt (Sg v k) (cyc v) : Nat) : Int) = ((2 * sumN (fun r => cnt (Sg v r) (cyc v)) k + 2 * cnt (Sg v k) (cyc v) : Nat) : Int) by omega, ← I2]
    exact f2
/-- two cycles have passed: one room -/
theorem pd154 (hx : HX v) (hp : PAST v w (2 * cyc v)) (hc : cyc v ≤ 2520) {r : Nat} (hr : r < hR v) {x1 : Int64} {x4 : Int32} {y : HistV} {e : Nat → HouseV} {w0 w1 w2 : Nat → Int32} (h0 : w0 r = I (uN v r : Int)) (h1 : w1 r = I (gN v r : Int)) (h2 : w2 r = I (sN v r : Int)) {c2 s2 : Nat} {s : SightV} (hms : MS s w) (k124 : Int32 → HouseV → HistV → (Nat → HouseV) → SightV → Nat → (Nat → Int32) → Nat → (Nat → Int32) → Nat → (Nat → Int32) → Nat → Nat → Option (Bool × HouseV × HistV × (Nat → HouseV) × SightV)) {T : Nat} (hT : (gapC (Sg v r) (cyc v) = -1 ∧ T = 2 * cyc v) ∨ (gapC (Sg v r) (cyc v) = (T : Int))) : ∃ s', MSn s s' w ∧ L_isPassed_154 g k124 x1 (I (cyc v : Int)) x4 (I (r : Int)) (I (T : Int)) w y e s (hR v) w0 (hR v) w1 (hR v) w2 c2 s2 = k124 (I ((r + 1 : Nat) : Int)) w y e s' (hR v) w0 (hR v) w1 (hR v) w2 c2 s2 := by
  obtain ⟨p1, p2, p3, p4, p5⟩ := hp
  obtain ⟨q1, q2, q3⟩ := p4 r hr
  have hv := hx.1
  have hR12 := hv.1.2.2.1
  have hw := hv.2.2.2.2.1
  have hc1 := cyc_pos hw
  have hper : ∀ t, Sg v r (t + cyc v) = Sg v r t := fun t => Sg_per r t
  have hrw : r < hR w := by rw [(sgm_n p1).1]; exact hr
  have eSg : Sg w r = Sg v r := sw_Sg (sgm_sw p1) r
  have eC : cyc w = cyc v := sw_cyc (sgm_sw p1)
  have hgb := gapC_b (Sg v r) hc1
  have hMw : hM w ≤ 99999 := p3.1.2.2.2.2.2.2.2.2.1
  obtain ⟨z1, z2, z3, z4, z5, z6, -⟩ := wfs_n p3 (r := r) (by omega)
  obtain ⟨y1, y2, y3, y4, y5, y6, -⟩ := wfs_n hv (r := r) (by omega)
  have hle := hx.2.1 r (by omega)
  have hS : sN w r = sN v r + 2 * cnt (Sg v r) (cyc v) := by rw [q1, cnt_two_cycles hper]
  have hcl := cnt_le (Sg v r) (cyc v)
  -- the longest run
  have hhi : gN w r ≤ max (gN v r) (uN v r + T) := by
    rw [q3]
    refine rsN_hi (N := 2 * cyc v) (fun a L hL hu => ?_) (2 * cyc v) (Nat.le_refl _)
    rcases hT with ⟨-, e⟩ | e
    · omega
    · obtain ⟨i, hi, ei⟩ : ∃ t, t < cyc v ∧ Sg v r t = true := by
        have hne : ¬ cnt (Sg v r) (cyc v) = 0 := fun q => by
          have := (gap_never hc1 hper).mpr q
          omega
        obtain ⟨i, hi, ei⟩ := cnt_pos.mp (show 0 < cnt (Sg v r) (cyc v) by omega)
        exact ⟨i, hi, ei⟩
      obtain ⟨G, g1, -, g3⟩ := gap_char hc1 hper ⟨i, hi, ei⟩
      have := g3 (hM v + a) L (fun i hi => by rw [show hM v + a + i = hM v + (a + i) by omega]; exact hu i hi)
      omega
  have hlo : min T (2 * cyc v) ≤ gN w r := by
    rw [q3]
    rcases hT with ⟨e1, e⟩ | e
    · have hnv := cnt_0 ((gap_never hc1 hper).mp e1)
      have hall : ∀ t, Sg v r t = false := fun t => by rw [per_m hper t]; exact hnv _ (Nat.mod_lt _ (by omega))
      have := rsN_lo2 (S := fun j => Sg v r (hM v + j)) (b := uN v r) (c := gN v r) (a := 0) (G := 2 * cyc v) (N := 2 * cyc v) hle (by omega) (fun i _ => hall _)
      omega
    · by_cases hT0 : T = 0
      · omega
      · obtain ⟨b, G, b1, b2, b3, b4, b5, b6, b7, b8⟩ := (beg_char hc1 hper).2 (by omega)
        obtain rfl : G = T := by omega
        have hml : hM v % cyc v < cyc v := Nat.mod_lt _ (by omega)
        have hml2 : (b + cyc v - hM v % cyc v) % cyc v < cyc v := Nat.mod_lt _ (by omega)
        have hsh : ∀ i, Sg v r (hM v + ((b + cyc v - hM v % cyc v) % cyc v + i)) = Sg v r (b + i) := fun i => by
          rw [per_m hper (hM v + ((b + cyc v - hM v % cyc v) % cyc v + i)), per_m hper (b + i)]
          congr 1
          have e1 : (hM v + ((b + cyc v - hM v % cyc v) % cyc v + i)) % cyc v = (hM v % cyc v + (b + cyc v - hM v % cyc v) + i) % cyc v := mod_mix _ _ _ _
          rw [e1, show hM v % cyc v + (b + cyc v - hM v % cyc v) + i = b + i + cyc v by omega, Nat.add_mod_right]
        have := rsN_lo2 (S := fun j => Sg v r (hM v + j)) (b := uN v r) (c := gN v r) (a := (b + cyc v - hM v % cyc v) % cyc v) (G := G) (N := 2 * cyc v) hle (by omega) (fun i hi => by
          show Sg v r (hM v + ((b + cyc v - hM v % cyc v) % cyc v + i)) = false
          rw [hsh]; exact b6 i hi)
        omega
  obtain ⟨s1, e1, m1⟩ := room_l4 (g := g) p3 hms hrw
  have t1 := m1.ms hms
  obtain ⟨s2', e2, m2⟩ := room_l3 (g := g) p3 t1 hrw
  have t2 := m2.ms t1
  obtain ⟨s3, e3, m3⟩ := room_l7 (g := g) p3 t2 hrw
  have t3 := m3.ms t2
  obtain ⟨s4, e4, m4⟩ := room_l7 (g := g) p3 t3 hrw
  have hTb : T ≤ 5040 := by
    rcases hT with ⟨-, e⟩ | e <;> omega
  rw [eSg, eC] at e2
  refine ⟨s4, m1.trans (m2.trans (m3.trans m4)), ?_⟩
  unfold L_isPassed_154
  rw [e1, bind_s]
  dsimp only
  rw [gd_I (by omega) (by omega) (by omega), e2, bind_s]
  dsimp only
  rw [I_clamp r (by omega), h2, I2, I_mul, I_add, if_pos (by rw [hS]; congr 1), e3, bind_s]
  dsimp only
  rw [gd_I (by omega) (by omega) (by omega), gd_I (by omega) (by omega) (by omega), h0, h1, I_add, imax_I (by omega) (by omega) (by omega) (by omega), if_neg (I_lt_f (by omega) (by omega) (by omega)), e4, bind_s]
  dsimp only
  rw [I_mul, imin_I (by omega) (by omega) (by omega) (by omega), if_pos (I_le_t (by omega) (by omega) (by omega)), nmL_e, I_succ]
theorem pd124 (hx : HX v) (hp : PAST v w (2 * cyc v)) (hc : cyc v ≤ 2520) {y : HistV} {e : Nat → HouseV} {c : Nat} {U : Nat → HouseV} (hh : HQ y e (c + 1) U) (hU : HC (U 0) v) {w0 w1 w2 : Nat → Int32} (hwr : ∀ r, r < hR v → w0 r = I (uN v r : Int) ∧ w1 r = I (gN v r : Int) ∧ w2 r = I (sN v r : Int)) {c2 s2 : Nat} (hc10 : c + 1 ≤ 10) : ∀ (q r m : Nat) (s : SightV), hR v = r + q → q < m → MS s w → ∃ s1 s' v' y', MSn s s1 w ∧ HC v' v ∧ HQ y' e c (fun i => U (i + 1)) ∧ Hist_saved y' = Hist_saved y ∧ ((∀ t, MSn s t w → MS t v') → L_isPassed_124 g (dig v) (I (cyc v : Int)) (I (hR v : Int)) m (I (r : Int)) w y e s (hR v) w0 (hR v) w1 (hR v) w2 c2 s2 = some (true, v', y', e, s') ∧ MSn s1 s' v') := by
  have hv := hx.1
  have hR12 := hv.1.2.2.1
  have hw := hv.2.2.2.2.1
  have hc1 := cyc_pos hw
  intro q
  induction q with
  | zero =>
    intro r m s hk hm hms
    obtain ⟨m, rfl⟩ : ∃ q, m = q + 1 := ⟨m - 1, by omega⟩
    obtain ⟨v', y', u1, u2, u3, u4⟩ := undo_q (g := g) hh w
    have hcv := u2.trans hU
    have hok := hc_ok hcv hv
    by_cases hq : MS s v'
    · obtain ⟨s', a1, a2⟩ := all_s (g := g) hok hq
      refine ⟨s, s', v', y', MSn.refl s w, hcv, u3, u4, fun _ => ⟨?_, a2⟩⟩
      rw [L_isPassed_124, if_pos (I_le_t (by omega) (by omega) (by omega)), u1, bind_s]
      dsimp only
      rw [if_neg (show ¬ I ((c : Nat) : Int) < 0 from I_lt_f (b := 0) (by omega) (by omega) (by omega)), a1, bind_s]
      dsimp only
      rw [dig_hc hv hcv, lcmp_self, if_pos rfl]
    · exact ⟨s, s, v', y', MSn.refl s w, hcv, u3, u4, fun hall => absurd (hall s (MSn.refl s w)) hq⟩
  | succ q ih =>
    intro r m s hk hm hms
    obtain ⟨m, rfl⟩ : ∃ q, m = q + 1 := ⟨m - 1, by omega⟩
    have hr : r < hR v := by omega
    have hrw : r < hR w := by rw [(sgm_n hp.1).1]; exact hr
    have hgb := gapC_b (Sg v r) hc1
    have eSg : Sg w r = Sg v r := sw_Sg (sgm_sw hp.1) r
    have eC : cyc w = cyc v := sw_cyc (sgm_sw hp.1)
    obtain ⟨x1, x2, x3⟩ := hwr r hr
    obtain ⟨s1, e1, m1⟩ := room_l1 (g := g) hp.2.2.1 hms hrw
    rw [eSg, eC] at e1
    have t1 := m1.ms hms
    by_cases c0 : 0 ≤ gapC (Sg v r) (cyc v)
    · obtain ⟨T, hT⟩ : ∃ T : Nat, gapC (Sg v r) (cyc v) = (T : Int) := ⟨(gapC (Sg v r) (cyc v)).toNat, by omega⟩
      obtain ⟨s2', e2, m2⟩ := room_l1 (g := g) hp.2.2.1 t1 hrw
      rw [eSg, eC] at e2
      have t2 := m2.ms t1
      obtain ⟨s3, m3, e3⟩ := pd154 (g := g) hx hp hc hr (x1 := dig v) (x4 := I (hR v : Int)) (y := y) (e := e) x1 x2 x3 (c2 := c2) (s2 := s2) t2 (fun x9 v1 v2 v3 v4 l0 w0 l1 w1 l2 w2 c s => L_isPassed_124 g (dig v) (I (cyc v : Int)) (I (hR v : Int)) m x9 v1 v2 v3 v4 l0 w0 l1 w1 l2 w2 c s) (Or.inr hT)
      obtain ⟨s4, s', v', y', m4, f1, f2, f3, f4⟩ := ih (r + 1) m s3 (by omega) (by omega) (m3.ms t2)
      refine ⟨s4, s', v', y', m1.trans (m2.trans (m3.trans m4)), f1, f2, f3, fun hall => ?_⟩
      obtain ⟨k1, k2⟩ := f4 fun t ht => hall t (m1.trans (m2.trans (m3.trans ht)))
      refine ⟨?_, k2⟩
      rw [L_isPassed_124, if_neg (I_le_f (by omega) (by omega) (by omega)), e1, bind_s]
      dsimp only
      rw [if_pos (show (0 : Int32) ≤ I (gapC (Sg v r) (cyc v)) from I_le_t (a := 0) c0 (by omega) (by omega)), e2, bind_s]
      dsimp only
      rw [hT]
      exact e3.trans k1
    · have hT : gapC (Sg v r) (cyc v) = -1 := by omega
      obtain ⟨s3, m3, e3⟩ := pd154 (g := g) hx hp hc hr (x1 := dig v) (x4 := I (hR v : Int)) (y := y) (e := e) x1 x2 x3 (c2 := c2) (s2 := s2) t1 (fun x9 v1 v2 v3 v4 l0 w0 l1 w1 l2 w2 c s => L_isPassed_124 g (dig v) (I (cyc v : Int)) (I (hR v : Int)) m x9 v1 v2 v3 v4 l0 w0 l1 w1 l2 w2 c s) (T := 2 * cyc v) (Or.inl ⟨hT, rfl⟩)
      obtain ⟨s4, s', v', y', m4, f1, f2, f3, f4⟩ := ih (r + 1) m s3 (by omega) (by omega) (m3.ms t1)
      refine ⟨s4, s', v', y', m1.trans (m3.trans m4), f1, f2, f3, fun hall => ?_⟩
      obtain ⟨k1, k2⟩ := f4 fun t ht => hall t (m1.trans (m3.trans ht))
      refine ⟨?_, k2⟩
      rw [L_isPassed_124, if_neg (I_le_f (by omega) (by omega) (by omega)), e1, bind_s]
      dsimp only
      rw [if_neg (show ¬ (0 : Int32) ≤ I (gapC (Sg v r) (cyc v)) from I_le_f (a := 0) (by omega) (by omega) (by omega)), show (2 : Int32) * I (cyc v : Int) = I ((2 * cyc v : Nat) : Int) by rw [I2, I_mul]; congr 1]
      exact e3.trans k1
theorem MSn.si2 {s s' : SightV} (hj : JX Φ Ψ ls v) (hs : SI2 Φ ls s) (h : MSn s s' v) : SI2 Φ ls s' := by
  rcases h with e | ⟨x1, x2⟩
  · rw [e]; exact hs
  · exact SI2.of hj.1 x1 x2
/-- two cycles pass, and are undone -/
theorem isPassed_s (hj : JX Φ Ψ ls v) (hl : ls ≤ 100000) (hc : cyc v ≤ 200) (hMb : hM v ≤ 90000) {c : Nat} {U : Nat → HouseV} {y : HistV} {e : Nat → HouseV} (hh : HQ y e c U) (hc10 : c + 1 ≤ 10) {s : SightV} (hs : SI2 Φ ls s) : ∃ v' y' e' s', L_isPassed g v y e s = some (true, v', y', e', s') ∧ HC v' v ∧ HQ y' e' c U ∧ SI2 Φ ls s' ∧ Hist_saved y' = Hist_saved y := by
  have hx := hj.2
  have hv := hx.1
  have hR12 := hv.1.2.2.1
  have hw := hv.2.2.2.2.1
  have hc1 := cyc_pos hw
  obtain ⟨s1, a1, a2⟩ := all_s (g := g) hv (hs.ms hj.1 hl)
  have hs1 := MSn.si2 hj hs a2
  obtain ⟨s2, w0, w1, w2, m2, f1, f2⟩ := pd42 (g := g) hx (x1 := dig v) (y := y) (e := e) (c2 := 0 + 1 + 1 + 1) (s2 := 0 + hR v + hR v + hR v) (hR v) 0 FU s1 (fun _ => 0) (fun _ => 0) (fun _ => 0) (by omega) (by unfold FU; omega) (hs1.ms hj.1 hl) (fun r hr => absurd hr (by omega))
  have hs2 := MSn.si2 hj hs1 m2
  obtain ⟨w, y1, e1, p1, p2, p3, p4⟩ := pass_q (g := g) hv (n := 2 * cyc v) (by omega) (by omega) (by omega) hh
  have hjw : JX Φ Ψ ls w := by
    obtain ⟨q1, q2, q3, q4, q5⟩ := id p2
    have hxw := past_hx hx p2
    exact ⟨hj.1.same hxw.1 q1.2.2.2.2.2.1 q1.2.2.2.2.1 (sgm_sw q1) (we_c hw q1.1 q1.2.2.1 q1.2.2.2.2.2.2.2.2.2.2.1 q1.2.2.2.2.2.2.2.2.2.2.2.2.1), hxw⟩
  rw [show min (c + 1) 10 = c + 1 by omega] at p3
  obtain ⟨s3, s4, v', y', m3, g1, g2, g3, g4⟩ := pd124 (g := g) hx p2 (by omega) p3 (HC.refl v) f1 (c2 := 0 + 1 + 1 + 1) (s2 := 0 + hR v + hR v + hR v) hc10 (hR v) 0 FU s2 (by omega) (by unfold FU; omega) (hs2.ms hjw.1 hl)
  have hj' : JX Φ Ψ ls v' := hj.hc g1
  obtain ⟨k1, k2⟩ := g4 fun t ht => (MSn.si2 hjw hs2 ht).ms hj'.1 hl
  refine ⟨v', y', e1, s4, ?_, g1, g2, MSn.si2 hj' (MSn.si2 hjw hs2 m3) k2, g3.trans p4⟩
  have hdue : psum v (hM v) (2 * cyc v) = 2 * sumN (fun r => cnt (Sg v r) (cyc v)) (hR v) := by
    rw [psum_swap, show 2 * sumN (fun r => cnt (Sg v r) (cyc v)) (hR v) = sumN (fun r => 2 * cnt (Sg v r) (cyc v)) (hR v) from (by
      induction hR v with
      | zero => rfl
      | succ n ih => rw [sumN, sumN, ← ih]; omega)]
    exact sumN_congr fun r _ => cnt_two_cycles (fun t => Sg_per r t)
  unfold L_isPassed
  rw [a1, bind_s]
  dsimp only
  rw [size_3 hv, bind_s]
  dsimp only
  rw [size_0, bind_s]
  dsimp only
  rw [hv.1.1, gd_I (by omega) (by omega) (by omega), I_clamp (hR v) (by omega), gd_d ⟨by omega, by omega⟩, gd_d ⟨by omega, by omega⟩, gd_d ⟨by omega, by omega⟩]
  refine Eq.trans f2 ?_
  rw [show (2 : Int32) * I (cyc v : Int) = I ((2 * cyc v : Nat) : Int) by rw [I2, I_mul]; congr 1, p1, bind_s]
  dsimp only
  rw [if_pos (by rw [hdue])]
  exact k1
end PASSED
