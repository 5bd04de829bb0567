section HOUSEA
variable {v w u : HouseV} {g : Nat}
theorem addStep_s (b : BW v g) (hg : g < hG v) (hw : WFw v g) (hp : hP v g < 10) {a : Nat} (ha : a < hR v) : ∃ w, House_addStep (I (g : Int)) (I (a : Int)) v = some w ∧ GU w v g ∧ WFw w g ∧ hP w g = hP v g + 1 ∧ House_phases w g = House_phases v g ∧ House_walks w (10 * g + hP v g) = I (a : Int) ∧ ∀ s, s < hP v g → House_walks w (10 * g + s) = House_walks v (10 * g + s) := by
  have hG4 : hG v ≤ 4 := b.1.2.2.2.2.2.2.1
  have hR12 : hR v ≤ 12 := b.1.2.2.1
  obtain ⟨p1, p2, p3, p4, p5⟩ := hw
  have hKl : hK v g < 2 ^ 12 := Nat.lt_of_lt_of_le (by rw [p5]; exact ors_lt fun s hs => bit_lt (p3 s hs).2) (Nat.pow_le_pow_right (by omega) hR12)
  unfold House_addStep
  rw [hasG b hg, bind_s, bif_t, gd_I (by omega) (by omega) (by omega), I_clamp g (by omega), p1, if_neg (neg_f (by omega)), I10, if_neg (I_le_f (by omega) (by omega) (by omega)), I_mul, I_add, show (g : Int) * 10 + (hP v g : Int) = ((10 * g + hP v g : Nat) : Int) by omega, gd_I (by omega) (by omega) (by omega), I_clamp (10 * g + hP v g) (by omega), I_shl a (by omega)]
  simp only [nmL_e]
  refine ⟨_, rfl, ?_⟩
  obtain ⟨x, hx⟩ : ∃ x, x = I (a : Int) := ⟨_, rfl⟩
  obtain ⟨y, hy⟩ : ∃ y, y = I ((1 <<< a : Nat) : Int) := ⟨_, rfl⟩
  rw [← hx, ← hy]
  rw [Ho_walked_walks, Ho_periods_walked, Ho_periods_walks, p1, p4]
  obtain ⟨P, hP'⟩ : ∃ P, P = upd (House_periods v) g (I (hP v g : Int) + 1) := ⟨_, rfl⟩
  obtain ⟨W, hW'⟩ : ∃ W, W = upd (House_walks v) (10 * g + hP v g) x := ⟨_, rfl⟩
  obtain ⟨K, hK'⟩ : ∃ K, K = upd (House_walked v) g (I (hK v g : Int) ||| y) := ⟨_, rfl⟩
  rw [← hP', ← hW', ← hK']
  have f1 : House_rooms (House_set_periods (House_set_walked (House_set_walks v W) K) P) = House_rooms v := by rw [Ho_rooms_periods, Ho_rooms_walked, Ho_rooms_walks]
  have f2 : House_doors (House_set_periods (House_set_walked (House_set_walks v W) K) P) = House_doors v := by rw [Ho_doors_periods, Ho_doors_walked, Ho_doors_walks]
  have f3 : House_guards (House_set_periods (House_set_walked (House_set_walks v W) K) P) = House_guards v := by rw [Ho_guards_periods, Ho_guards_walked, Ho_guards_walks]
  have f4 : House_minute (House_set_periods (House_set_walked (House_set_walks v W) K) P) = House_minute v := by rw [Ho_minute_periods, Ho_minute_walked, Ho_minute_walks]
  have f5 : House_openDoors (House_set_periods (House_set_walked (House_set_walks v W) K) P) = House_openDoors v := by rw [Ho_openDoors_periods, Ho_openDoors_walked, Ho_openDoors_walks]
  have f6 : House_doorFirst (House_set_periods (House_set_walked (House_set_walks v W) K) P) = House_doorFirst v := by rw [Ho_doorFirst_periods, Ho_doorFirst_walked, Ho_doorFirst_walks]
  have f7 : House_doorSecond (House_set_periods (House_set_walked (House_set_walks v W) K) P) = House_doorSecond v := by rw [Ho_doorSecond_periods, Ho_doorSecond_walked, Ho_doorSecond_walks]
  have f8 : House_joined (House_set_periods (House_set_walked (House_set_walks v W) K) P) = House_joined v := by rw [Ho_joined_periods, Ho_joined_walked, Ho_joined_walks]
  have f9 : House_limits (House_set_periods (House_set_walked (House_set_walks v W) K) P) = House_limits v := by rw [Ho_limits_periods, Ho_limits_walked, Ho_limits_walks]
  have f10 : House_sightings (House_set_periods (House_set_walked (House_set_walks v W) K) P) = House_sightings v := by rw [Ho_sightings_periods, Ho_sightings_walked, Ho_sightings_walks]
  have f11 : House_lastSeen (House_set_periods (House_set_walked (House_set_walks v W) K) P) = House_lastSeen v := by rw [Ho_lastSeen_periods, Ho_lastSeen_walked, Ho_lastSeen_walks]
  have f12 : House_runs (House_set_periods (House_set_walked (House_set_walks v W) K) P) = House_runs v := by rw [Ho_runs_periods, Ho_runs_walked, Ho_runs_walks]
  have f13 : House_longestRuns (House_set_periods (House_set_walked (House_set_walks v W) K) P) = House_longestRuns v := by rw [Ho_longestRuns_periods, Ho_longestRuns_walked, Ho_longestRuns_walks]
  have f14 : House_periods (House_set_periods (House_set_walked (House_set_walks v W) K) P) = P := by rw [Ho_periods_periods]
  have f15 : House_phases (House_set_periods (House_set_walked (House_set_walks v W) K) P) = House_phases v := by rw [Ho_phases_periods, Ho_phases_walked, Ho_phases_walks]
  have f16 : House_walked (House_set_periods (House_set_walked (House_set_walks v W) K) P) = K := by rw [Ho_walked_periods, Ho_walked_walked]
  have f17 : House_walks (House_set_periods (House_set_walked (House_set_walks v W) K) P) = W := by rw [Ho_walks_periods, Ho_walks_walked, Ho_walks_walks]
  revert f1 f2 f3 f4 f5 f6 f7 f8 f9 f10 f11 f12 f13 f14 f15 f16 f17
  generalize House_set_periods (House_set_walked (House_set_walks v W) K) P = w
  intro f1 f2 f3 f4 f5 f6 f7 f8 f9 f10 f11 f12 f13 f14 f15 f16 f17
  have gP : hP w g = hP v g + 1 := by
    unfold hP
    rw [f14, hP', upd_i, I_succ]
    exact I_clamp _ (by omega)
  have gWn : ∀ s, s < hP v g → House_walks w (10 * g + s) = House_walks v (10 * g + s) := fun s hs => by rw [f17, hW', upd_n (by omega)]
  have gWi : House_walks w (10 * g + hP v g) = I (a : Int) := by rw [f17, hW', upd_i, hx]
  have gK : House_walked w g = I ((hK v g ||| 1 <<< a : Nat) : Int) := by rw [f16, hK', upd_i, hy, I_or]
  have hor : hK v g ||| 1 <<< a < 2 ^ 12 := or_lt hKl (bit_lt (by omega))
  have eW : ∀ s, s < hP v g → hW w g s = hW v g s := fun s hs => by unfold hW; rw [gWn s hs]
  have eWi : hW w g (hP v g) = a := by unfold hW; rw [gWi]; exact I_clamp a (by omega)
  have eK : hK w g = hK v g ||| 1 <<< a := by unfold hK; rw [gK]; exact I_clamp _ (by omega)
  refine ⟨⟨f1, f2, f3, f4, f5, f6, f7, f8, f9, f10, f11, f12, f13, fun g' hne => ⟨by rw [f14, hP', upd_n hne], by rw [f15], by rw [f16, hK', upd_n hne], fun s hs => by rw [f17, hW', upd_n (by omega)]⟩⟩, ⟨by rw [gP, f14, hP', upd_i, I_succ], by omega, fun s hs => ?_, by rw [eK]; exact gK, ?_⟩, gP, by rw [f15], gWi.trans hx.symm, gWn⟩
  · rw [gP] at hs
    rw [show hR w = hR v by unfold hR; rw [f1]]
    by_cases c : s = hP v g
    · rw [c, eWi, gWi]
      exact ⟨rfl, ha⟩
    · rw [eW s (by omega), gWn s (by omega)]
      exact p3 s (by omega)
  · rw [eK, gP, ors, eWi, p5]
    congr 1
    exact ors_congr fun s hs => by rw [eW s hs]
end HOUSEA
section CONT
variable {v w : HouseV} {nR nD nG : Nat} {A B : Nat → Nat} {O : Nat → Bool} {Lm P φ : Nat → Nat} {Wk : Nat → Nat → Nat}
/-- what a house holds -/
def CON (v : HouseV) (nR nD nG : Nat) (A B : Nat → Nat) (O : Nat → Bool) (Lm P φ : Nat → Nat) (Wk : Nat → Nat → Nat) : Prop := HX v ∧ hM v = 0 ∧ hR v = nR ∧ hD v = nD ∧ (∀ d, d < nD → hA v d = A d ∧ hB v d = B d ∧ opn v d = O d) ∧ hG v = nG ∧ (∀ g, g < nG → hP v g = P g ∧ hF v g = φ g ∧ ∀ s, s < P g → hW v g s = Wk g s) ∧ ∀ r, r < nR → hL v r = Lm r
/-- a row for a house -/
def mkM (v : HouseV) (i : Nat) : Int32 :=
  if i = 0 then House_rooms v else if i = 1 then House_doors v else if i = 2 then House_guards v else if i = 3 then House_minute v
  else if i < 64 then (if (i - 4) % 5 = 0 then House_limits v ((i - 4) / 5) else if (i - 4) % 5 = 1 then House_sightings v ((i - 4) / 5) else if (i - 4) % 5 = 2 then House_lastSeen v ((i - 4) / 5) else if (i - 4) % 5 = 3 then House_runs v ((i - 4) / 5) else House_longestRuns v ((i - 4) / 5))
  else if i < 124 then (if (i - 64) % 3 = 0 then House_doorFirst v ((i - 64) / 3) else if (i - 64) % 3 = 1 then House_doorSecond v ((i - 64) / 3) else I ((bif (hO v).testBit ((i - 64) / 3) then 1 else 0 : Nat) : Int))
  else (if (i - 124) % 12 = 0 then House_periods v ((i - 124) / 12) else if (i - 124) % 12 = 1 then House_phases v ((i - 124) / 12) else House_walks v (10 * ((i - 124) / 12) + ((i - 124) % 12 - 2)))
theorem mkM_rel (hn : WFn v) (hp : ∀ g, g < hG v → hP v g ≤ 10) : RelM (mkM v) v := by
  have hD20 := hn.2.2.2.2.1
  have hG4 := hn.2.2.2.2.2.2.1
  refine ⟨rfl, rfl, rfl, rfl, fun r hr => ⟨?_, ?_, ?_, ?_, ?_⟩, fun d hd => ⟨?_, ?_, ?_⟩, fun g hg => ⟨?_, ?_, fun s hs => ?_⟩⟩
  · unfold mkM
    rw [if_neg (by omega), if_neg (by omega), if_neg (by omega), if_neg (by omega), if_pos (by omega), if_pos (by omega), show (4 + 5 * r - 4) / 5 = r by omega]
  · unfold mkM
    rw [if_neg (by omega), if_neg (by omega), if_neg (by omega), if_neg (by omega), if_pos (by omega), if_neg (by omega), if_pos (by omega), show (5 + 5 * r - 4) / 5 = r by omega]
  · unfold mkM
    rw [if_neg (by omega), if_neg (by omega), if_neg (by omega), if_neg (by omega), if_pos (by omega), if_neg (by omega), if_neg (by omega), if_pos (by omega), show (6 + 5 * r - 4) / 5 = r by omega]
  · unfold mkM
    rw [if_neg (by omega), if_neg (by omega), if_neg (by omega), if_neg (by omega), if_pos (by omega), if_neg (by omega), if_neg (by omega), if_neg (by omega), if_pos (by omega), show (7 + 5 * r - 4) / 5 = r by omega]
  · unfold mkM
    rw [if_neg (by omega), if_neg (by omega), if_neg (by omega), if_neg (by omega), if_pos (by omega), if_neg (by omega), if_neg (by omega), if_neg (by omega), if_neg (by omega), show (8 + 5 * r - 4) / 5 = r by omega]
  · unfold mkM
    rw [if_neg (by omega), if_neg (by omega), if_neg (by omega), if_neg (by omega), if_neg (by omega), if_pos (by omega), if_pos (by omega), show (64 + 3 * d - 64) / 3 = d by omega]
  · unfold mkM
    rw [if_neg (by omega), if_neg (by omega), if_neg (by omega), if_neg (by omega), if_neg (by omega), if_pos (by omega), if_neg (by omega), if_pos (by omega), show (65 + 3 * d - 64) / 3 = d by omega]
  · unfold mkM
    rw [if_neg (by omega), if_neg (by omega), if_neg (by omega), if_neg (by omega), if_neg (by omega), if_pos (by omega), if_neg (by omega), if_neg (by omega), show (66 + 3 * d - 64) / 3 = d by omega]
  · unfold mkM
    rw [if_neg (by omega), if_neg (by omega), if_neg (by omega), if_neg (by omega), if_neg (by omega), if_neg (by omega), if_pos (by omega), show (124 + 12 * g - 124) / 12 = g by omega]
  · unfold mkM
    rw [if_neg (by omega), if_neg (by omega), if_neg (by omega), if_neg (by omega), if_neg (by omega), if_neg (by omega), if_neg (by omega), if_pos (by omega), show (125 + 12 * g - 124) / 12 = g by omega]
  · have h10 := hp g hg
    unfold mkM
    rw [if_neg (by omega), if_neg (by omega), if_neg (by omega), if_neg (by omega), if_neg (by omega), if_neg (by omega), if_neg (by omega), if_neg (by omega), show (126 + 12 * g + s - 124) / 12 = g by omega, show (126 + 12 * g + s - 124) % 12 - 2 = s by omega]
/-- a house begun -/
theorem con_begin {a : Nat} (h1 : 1 ≤ a) (h12 : a ≤ 12) (v : HouseV) : ∃ w, House_begin (I (a : Int)) v = some w ∧ CON w a 0 0 A B O (fun _ => 99) P φ Wk := by
  obtain ⟨w, e, hok, hm⟩ := begin_ok h1 h12 v
  obtain ⟨m, hmd⟩ : ∃ m : Nat → Int32, m = fun i => if 4 ≤ i ∧ i < 64 then (if (i - 4) % 5 = 0 then 99 else if (i - 4) % 5 = 2 then -1 else 0) else 0 := ⟨_, rfl⟩
  have m0 : ∀ i, (i < 4 ∨ 64 ≤ i) → m i = 0 := fun i hi => by rw [hmd]; exact if_neg (by omega)
  have mL : ∀ r, r < 12 → m (4 + 5 * r) = 99 := fun r hr => by
    rw [hmd]
    show (if 4 ≤ 4 + 5 * r ∧ 4 + 5 * r < 64 then (if (4 + 5 * r - 4) % 5 = 0 then (99 : Int32) else if (4 + 5 * r - 4) % 5 = 2 then -1 else 0) else 0) = 99
    rw [if_pos (by omega), if_pos (by omega)]
  have mZ : ∀ i, 4 ≤ i → i < 64 → (i - 4) % 5 ≠ 0 → (i - 4) % 5 ≠ 2 → m i = 0 := fun i a1 a2 a3 a4 => by
    rw [hmd]
    show (if 4 ≤ i ∧ i < 64 then (if (i - 4) % 5 = 0 then (99 : Int32) else if (i - 4) % 5 = 2 then -1 else 0) else 0) = 0
    rw [if_pos ⟨a1, a2⟩, if_neg a3, if_neg a4]
  have mS : ∀ r, r < 12 → m (6 + 5 * r) = -1 := fun r hr => by
    rw [hmd]
    show (if 4 ≤ 6 + 5 * r ∧ 6 + 5 * r < 64 then (if (6 + 5 * r - 4) % 5 = 0 then (99 : Int32) else if (6 + 5 * r - 4) % 5 = 2 then -1 else 0) else 0) = -1
    rw [if_pos (by omega), if_neg (by omega), if_pos (by omega)]
  have hR := hm m ⟨fun r hr => ⟨mL r hr, mZ _ (by omega) (by omega) (by omega) (by omega), mS r hr, mZ _ (by omega) (by omega) (by omega) (by omega), mZ _ (by omega) (by omega) (by omega) (by omega)⟩, m0 1 (by omega), m0 2 (by omega), m0 3 (by omega)⟩
  obtain ⟨r0, r1, r2, r3, r4, -, -⟩ := hR
  rw [upd_i] at r0
  rw [upd_n (by omega), m0 1 (by omega)] at r1
  rw [upd_n (by omega), m0 2 (by omega)] at r2
  rw [upd_n (by omega), m0 3 (by omega)] at r3
  have eG : hG w = 0 := by unfold hG; rw [← r2]; rfl
  refine ⟨w, e, ⟨hok, fun r hr => ?_, fun q hq => absurd hq (by omega)⟩, by unfold hM; rw [← r3]; rfl, by unfold hR; rw [← r0]; exact I_clamp a (by omega), by unfold hD; rw [← r1]; rfl, fun d hd => absurd hd (by omega), eG, fun g hg => absurd hg (by omega), fun r hr => ?_⟩
  · obtain ⟨-, -, -, x4, x5⟩ := r4 r hr
    rw [upd_n (by omega), mZ _ (by omega) (by omega) (by omega) (by omega)] at x4
    unfold uN
    rw [← x4]
    exact Nat.zero_le _
  · obtain ⟨x1, -⟩ := r4 r (by omega)
    rw [upd_n (by omega), mL r (by omega)] at x1
    unfold hL
    rw [← x1]
    rfl
theorem bifI_inj {x y : Bool} (h : I ((bif x then 1 else 0 : Nat) : Int) = I ((bif y then 1 else 0 : Nat) : Int)) : x = y := by
  cases x <;> cases y
  · rfl
  · exact absurd h (by decide)
  · exact absurd h (by decide)
  · rfl
theorem bif_I1 (o : Bool) : I ((bif o then 1 else 0 : Nat) : Int) = b2i o := by cases o <;> rfl
/-- one more door -/
theorem con_door {k : Nat} (h : CON v nR k 0 A B O Lm P φ Wk) (hk : k < 20) (ha : A k < nR) (hb : B k < nR) (hab : A k ≠ B k) : ∃ w, House_addDoor (I (A k : Int)) (I (B k : Int)) (O k) v = some w ∧ CON w nR (k + 1) 0 A B O Lm P φ Wk := by
  obtain ⟨⟨h1, h2, h3⟩, eM, eR, eD, dd, eG, -, ll⟩ := h
  have hn := h1.1
  have hR12 : hR v ≤ 12 := hn.2.2.1
  have hrel := mkM_rel hn (fun g hg => absurd hg (by omega))
  obtain ⟨w, e, hok, hm⟩ := addDoor_ok h1 hrel (by omega) (a := A k) (c := B k) (by omega) (by omega) hab (O k)
  obtain ⟨m, hmd⟩ : ∃ m : Nat → Int32, m = mkM v := ⟨_, rfl⟩
  rw [← hmd] at hrel
  rw [← hmd, eD] at hm
  have hR := hm (upd (upd (upd (upd m 1 (I ((k + 1 : Nat) : Int))) (64 + 3 * k) (I (A k : Int))) (65 + 3 * k) (I (B k : Int))) (66 + 3 * k) (I ((bif O k then 1 else 0 : Nat) : Int))) (by rw [upd_n (by omega), upd_n (by omega), upd_n (by omega), upd_i]) (by rw [upd_n (by omega), upd_n (by omega), upd_i]) (by rw [upd_n (by omega), upd_i]) (by rw [upd_i]) (fun i _ a1 a2 a3 a4 => by rw [upd_n (by omega), upd_n (by omega), upd_n (by omega), upd_n (by omega)])
  obtain ⟨r0, r1, r2, r3, r4, r5, -⟩ := hR
  obtain ⟨s0, s1, s2, s3, s4, s5, -⟩ := hrel
  rw [upd_n (by omega), upd_n (by omega), upd_n (by omega), upd_n (by omega), s0] at r0
  rw [upd_n (by omega), upd_n (by omega), upd_n (by omega), upd_i] at r1
  rw [upd_n (by omega), upd_n (by omega), upd_n (by omega), upd_n (by omega), s2] at r2
  rw [upd_n (by omega), upd_n (by omega), upd_n (by omega), upd_n (by omega), s3] at r3
  have eD' : hD w = k + 1 := by unfold hD; rw [← r1]; exact I_clamp (k + 1) (by omega)
  have eG' : hG w = 0 := by rw [← eG]; unfold hG; rw [← r2]
  have eR' : hR w = nR := by rw [← eR]; unfold hR; rw [← r0]
  have eM' : hM w = 0 := by rw [← eM]; unfold hM; rw [← r3]
  have rr : ∀ r, r < 12 → House_limits w r = House_limits v r ∧ House_runs w r = House_runs v r ∧ House_longestRuns w r = House_longestRuns v r := fun r hr => by
    obtain ⟨x1, x2, x3, x4, x5⟩ := r4 r hr
    obtain ⟨y1, y2, y3, y4, y5⟩ := s4 r hr
    rw [upd_n (by omega), upd_n (by omega), upd_n (by omega), upd_n (by omega)] at x1 x4 x5
    exact ⟨x1.symm.trans y1, x4.symm.trans y4, x5.symm.trans y5⟩
  refine ⟨w, e, ⟨hok, fun r hr => ?_, fun q hq => absurd hq (by omega)⟩, eM', eR', eD', fun d hd => ?_, eG', fun g hg => absurd hg (by omega), fun r hr => ?_⟩
  · have := h2 r hr
    obtain ⟨x1, x2, x3⟩ := rr r hr
    unfold uN gN at this ⊢
    rw [x2, x3]
    exact this
  · obtain ⟨x1, x2, x3⟩ := r5 d (by omega)
    by_cases c : d = k
    · subst c
      rw [upd_n (by omega), upd_n (by omega), upd_i] at x1
      rw [upd_n (by omega), upd_i] at x2
      rw [upd_i] at x3
      refine ⟨?_, ?_, (bifI_inj x3).symm⟩
      · unfold hA; rw [← x1]; exact I_clamp _ (by omega)
      · unfold hB; rw [← x2]; exact I_clamp _ (by omega)
    · have hdk : d < k := by omega
      obtain ⟨y1, y2, y3⟩ := s5 d (by omega)
      obtain ⟨z1, z2, z3⟩ := dd d hdk
      rw [upd_n (by omega), upd_n (by omega), upd_n (by omega), upd_n (by omega)] at x1 x2 x3
      refine ⟨?_, ?_, ?_⟩
      · rw [← z1]; unfold hA; rw [← x1, y1]
      · rw [← z2]; unfold hB; rw [← x2, y2]
      · rw [← z3]; exact (bifI_inj (y3.symm.trans x3)).symm
  · rw [← ll r hr]
    unfold hL
    rw [(rr r (by omega)).1]
/-- a room's limit -/
theorem con_limit (h : CON v nR nD nG A B O Lm P φ Wk) {r a : Nat} (hr : r < nR) (ha : a ≤ 99) : CON (House_set_limits v (upd (House_limits v) r (I (a : Int)))) nR nD nG A B O (fun q => if q = r then a else Lm q) P φ Wk := by
  obtain ⟨hx, eM, eR, eD, dd, eG, gg, ll⟩ := h
  have hx' := limit_hx hx (by omega : r < hR v) ha
  refine ⟨hx', ?_, ?_, ?_, fun d hd => ?_, ?_, fun g hg => ?_, fun q hq => ?_⟩
  · rw [← eM]; unfold hM; rw [Ho_minute_limits]
  · rw [← eR]; unfold hR; rw [Ho_rooms_limits]
  · rw [← eD]; unfold hD; rw [Ho_doors_limits]
  · obtain ⟨z1, z2, z3⟩ := dd d hd
    refine ⟨?_, ?_, ?_⟩
    · rw [← z1]; unfold hA; rw [Ho_doorFirst_limits]
    · rw [← z2]; unfold hB; rw [Ho_doorSecond_limits]
    · rw [← z3]; unfold opn hO; rw [Ho_openDoors_limits]
  · rw [← eG]; unfold hG; rw [Ho_guards_limits]
  · obtain ⟨z1, z2, z3⟩ := gg g hg
    refine ⟨?_, ?_, fun s hs => ?_⟩
    · rw [← z1]; unfold hP; rw [Ho_periods_limits]
    · rw [← z2]; unfold hF; rw [Ho_phases_limits]
    · rw [← z3 s hs]; unfold hW; rw [Ho_walks_limits]
  · show hL (House_set_limits v (upd (House_limits v) r (I (a : Int)))) q = if q = r then a else Lm q
    unfold hL
    rw [Ho_limits_limits]
    by_cases c : q = r
    · rw [if_pos c, c, upd_i]
      exact I_clamp a (by omega)
    · rw [if_neg c, upd_n c]
      exact ll q hq
/-- one more guard, whose walk has been read -/
theorem con_guard {k : Nat} (h : CON v nR nD k A B O Lm P φ Wk) (hk : k < 4) {v' : HouseV} (gu : GU v' (House_set_guards v (House_guards v + 1)) k) (ww : WFw v' k) (h1 : 1 ≤ P k) (eP : hP v' k = P k) (eF : House_phases v' k = I (φ k : Int)) (hφ : φ k < P k) (eW : ∀ s, s < P k → House_walks v' (10 * k + s) = I (Wk k s : Int)) (hWk : ∀ s, s < P k → Wk k s < 12) (hgo : ∀ s, s < P k → go v (Wk k s) (Wk k ((s + 1) % P k)) = true) : CON v' nR nD (k + 1) A B O Lm P φ Wk := by
  obtain ⟨⟨x1, x2, x3⟩, eM, eR, eD, dd, eG, gg, ll⟩ := h
  have hn := x1.1
  have hrel := mkM_rel hn (fun g hg => by have := x1.2.2.2.2.1.per g hg; omega)
  obtain ⟨w, ew, bw, gw, -, -⟩ := setGuards_bw x1 (by omega) hrel
  subst ew
  rw [eG] at bw gw
  have hP10 : P k ≤ 10 := by rw [← eP]; exact ww.2.1
  have eFn : hF v' k = φ k := by unfold hF; rw [eF]; exact I_clamp _ (by omega)
  have hok := hok_of bw gu ww (by omega) (by rw [eFn]; exact eF) (by omega)
  obtain ⟨g1, g2, g3, g4, g5, g6, g7, g8, g9, g10, g11, g12, g13, g14⟩ := gu
  rw [Ho_rooms_guards] at g1
  rw [Ho_doors_guards] at g2
  rw [Ho_minute_guards] at g4
  rw [Ho_openDoors_guards] at g5
  rw [Ho_doorFirst_guards] at g6
  rw [Ho_doorSecond_guards] at g7
  rw [Ho_limits_guards] at g9
  rw [Ho_runs_guards] at g12
  rw [Ho_longestRuns_guards] at g13
  have eG' : hG v' = k + 1 := by rw [← gw]; unfold hG; rw [g3]
  have eD' : hD v' = hD v := by unfold hD; rw [g2]
  have eO' : hO v' = hO v := by unfold hO; rw [g5]
  have eA' : hA v' = hA v := by unfold hA; rw [g6]
  have eB' : hB v' = hB v := by unfold hB; rw [g7]
  have egk : ∀ q, q < k → hP v' q = hP v q ∧ hF v' q = hF v q ∧ ∀ s, s < 10 → hW v' q s = hW v q s := fun q hq => by
    obtain ⟨y1, y2, -, y4⟩ := g14 q (by omega)
    rw [Ho_periods_guards] at y1
    rw [Ho_phases_guards] at y2
    refine ⟨by unfold hP; rw [y1], by unfold hF; rw [y2], fun s hs => ?_⟩
    have y5 := y4 s hs
    rw [Ho_walks_guards] at y5
    unfold hW
    rw [y5]
  have eWn : ∀ s, s < P k → hW v' k s = Wk k s := fun s hs => by
    unfold hW
    rw [eW s hs]
    exact I_clamp _ (by have := hWk s hs; omega)
  have ejm : ∀ r, jm v' r = jm v r := fun r => jm_c eD' eO' eA' eB' r
  refine ⟨⟨hok, wfq_c g12 g13 x2, fun q hq s hs => ?_⟩, ?_, ?_, by omega, fun d hd => ?_, eG', fun q hq => ?_, fun r hr => ?_⟩
  · have ego : ∀ a b, go v' a b = go v a b := fun a b => by unfold go; rw [ejm]
    rw [ego]
    by_cases c : q = k
    · subst c
      rw [eP] at hs ⊢
      rw [eWn s hs, eWn _ (Nat.mod_lt _ (by omega))]
      exact hgo s hs
    · obtain ⟨y1, y2, y3⟩ := egk q (by omega)
      rw [y1] at hs ⊢
      have hp := x1.2.2.2.2.1.per q (by omega)
      have hml : (s + 1) % hP v q < hP v q := Nat.mod_lt _ (by omega)
      rw [y3 s (by omega), y3 _ (by omega)]
      exact x3 q (by omega) s hs
  · rw [← eM]; unfold hM; rw [g4]
  · rw [← eR]; unfold hR; rw [g1]
  · rw [eA', eB']
    unfold opn
    rw [eO']
    exact dd d hd
  · by_cases c : q = k
    · subst c
      exact ⟨eP, eFn, eWn⟩
    · obtain ⟨y1, y2, y3⟩ := egk q (by omega)
      obtain ⟨z1, z2, z3⟩ := gg q (by omega)
      have hp := x1.2.2.2.2.1.per q (by omega)
      exact ⟨by omega, by omega, fun s hs => by rw [y3 s (by omega)]; exact z3 s hs⟩
  · rw [← ll r hr]; unfold hL; rw [g9]
end CONT
