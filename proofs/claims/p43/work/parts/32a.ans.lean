section ANSA
variable {v w : HouseV} {s0 s s1 s2 : SightV} {g : GWV}
theorem MSn.refl (s : SightV) (v : HouseV) : MSn s s v := Or.inl rfl
theorem MSn.trans (h1 : MSn s0 s1 v) (h2 : MSn s1 s2 v) : MSn s0 s2 v := by
  rcases h2 with e | h
  · rw [e]; exact h1
  · exact Or.inr h
/-- the numbers that the class tells of a house -/
def szI (v : HouseV) (k : Nat) : Int32 := if k = 0 then House_rooms v else if k = 1 then House_doors v else if k = 2 then House_guards v else if k = 3 then I (cyc v : Int) else if k = 4 then House_minute v else if k = 5 then I (worst v) else if k = 6 then I ((cnt (late v) (hR v) : Nat) : Int) else if k = 7 then I (cross v) else if k = 8 then I ((cnt (opn v) (hD v) : Nat) : Int) else I (sumS v)
def rmI (v : HouseV) (r k : Nat) : Int32 := if k = 0 then House_limits v r else if k = 1 then I (gapC (Sg v r) (cyc v)) else if k = 2 then I ((bif late v r then 1 else 0 : Nat) : Int) else if k = 3 then I (cntC (Sg v r) (cyc v)) else if k = 4 then House_sightings v r else if k = 5 then House_lastSeen v r else if k = 6 then House_runs v r else House_longestRuns v r
def drI (v : HouseV) (d k : Nat) : Int32 := if k = 0 then House_doorFirst v d else if k = 1 then House_doorSecond v d else if k = 2 then I ((bif opn v d then 1 else 0 : Nat) : Int) else I ((cnt (thr v (hA v d) (hB v d)) (hG v) : Nat) : Int)
def guI (v : HouseV) (q k : Nat) : Int32 := if k = 0 then House_periods v q else if k = 1 then House_phases v q else if k = 2 then I (place v q (hM v) : Int) else I ((cnt (hK v q).testBit (hR v) : Nat) : Int)
theorem size_0 : GW_size 0 g v s = some (House_rooms v, s) := rfl
theorem size_1 : GW_size 1 g v s = some (House_doors v, s) := rfl
theorem size_2 : GW_size 2 g v s = some (House_guards v, s) := rfl
theorem size_3 (hv : HOK v) : GW_size 3 g v s = some (I (cyc v : Int), s) := by
  show (Option.bind (House_cycleLength v) fun p => some (p, s)) = _
  rw [cycleLength_s hv.1 hv.2.2.2.2.1, bind_s]
theorem size_4 : GW_size 4 g v s = some (House_minute v, s) := rfl
theorem size_5 (hv : HOK v) (hms : MS s v) : ∃ s', GW_size 5 g v s = some (I (worst v), s') ∧ MSn s s' v := by
  obtain ⟨s1, m1, m2, m3⟩ := measured_s hv.1 hv.2.2.2.2.1 hms g
  refine ⟨s1, ?_, Or.inr ⟨m2, m3⟩⟩
  show (Option.bind (GW_measured g v s) fun p97 => some (Sight_worst p97, p97)) = _
  rw [m1, bind_s, m2.2]
theorem size_6 (hv : HOK v) (hms : MS s v) : ∃ s', GW_size 6 g v s = some (I ((cnt (late v) (hR v) : Nat) : Int), s') ∧ MSn s s' v := by
  obtain ⟨s1, m1, m2, m3⟩ := measured_s hv.1 hv.2.2.2.2.1 hms g
  refine ⟨s1, ?_, Or.inr ⟨m2, m3⟩⟩
  show (Option.bind (GW_measured g v s) fun p105 => Option.bind (Sight_countLate p105 v) fun p112 => some (p112, p105)) = _
  rw [m1, bind_s, countLate_s hv.1 hv.2.2.2.2.1 hv.2.2.2.1 m2, bind_s]
theorem size_7 (hv : HOK v) : GW_size 7 g v s = some (I (cross v), s) := by
  show (Option.bind (House_countCrossings v) fun p => some (p, s)) = _
  rw [crossings_s hv.1 hv.2.2.2.2.1, bind_s]
theorem size_8 (hv : HOK v) : GW_size 8 g v s = some (I ((cnt (opn v) (hD v) : Nat) : Int), s) := by
  show (Option.bind (House_countOpenDoors v) fun p => some (p, s)) = _
  rw [openAll_s hv.1, bind_s]
theorem size_9 (hv : HOK v) : GW_size 9 g v s = some (I (sumS v), s) := by
  show (Option.bind (House_countSightings v) fun p => some (p, s)) = _
  rw [countSightings_s hv.1 hv.2.2.2.2.2, bind_s]
theorem size_I (hv : HOK v) (hms : MS s v) {k : Nat} (hk : k < 10) : ∃ s', GW_size (I (k : Int)) g v s = some (szI v k, s') ∧ MSn s s' v := by
  obtain e | e | e | e | e | e | e | e | e | e : k = 0 ∨ k = 1 ∨ k = 2 ∨ k = 3 ∨ k = 4 ∨ k = 5 ∨ k = 6 ∨ k = 7 ∨ k = 8 ∨ k = 9 := by omega
  · subst e; exact ⟨s, size_0, Or.inl rfl⟩
  · subst e; exact ⟨s, size_1, Or.inl rfl⟩
  · subst e; exact ⟨s, size_2, Or.inl rfl⟩
  · subst e; exact ⟨s, size_3 hv, Or.inl rfl⟩
  · subst e; exact ⟨s, size_4, Or.inl rfl⟩
  · subst e; exact size_5 hv hms
  · subst e; exact size_6 hv hms
  · subst e; exact ⟨s, size_7 hv, Or.inl rfl⟩
  · subst e; exact ⟨s, size_8 hv, Or.inl rfl⟩
  · subst e; exact ⟨s, size_9 hv, Or.inl rfl⟩
theorem needRoom_o (hn : WFn v) {r : Nat} (hr : r < hR v) : GW_needRoom (I (r : Int)) g v = some () := by
  have := hn.2.2.1
  unfold GW_needRoom
  rw [hasRoom_s hn (by omega) (by omega), bind_s, decide_eq_true ⟨by omega, by omega⟩, bif_t]
theorem needDoor_o (hn : WFn v) {d : Nat} (hd : d < hD v) : GW_needDoor (I (d : Int)) g v = some () := by
  have := hn.2.2.2.2.1
  unfold GW_needDoor
  rw [hasDoor_s hn (by omega) (by omega), bind_s, decide_eq_true ⟨by omega, by omega⟩, bif_t]
theorem needGuard_o (hn : WFn v) {q : Nat} (hq : q < hG v) : GW_needGuard (I (q : Int)) g v = some () := by
  have := hn.2.2.2.2.2.2.1
  unfold GW_needGuard
  rw [hasGuard_s hn (by omega) (by omega), bind_s, decide_eq_true ⟨by omega, by omega⟩, bif_t]
theorem needRange_o {z a b : Int} (h1 : a ≤ z) (h2 : z ≤ b) (h3 : -2147483648 ≤ a) (h4 : b ≤ 2147483647) : GW_needRange (I z) (I a) (I b) = some () := by
  unfold GW_needRange
  rw [if_neg (I_lt_f h1 (by omega) (by omega)), if_pos (I_le_t h2 (by omega) (by omega))]
theorem needNN_o {z : Int} (h1 : 0 ≤ z) (h2 : z ≤ 2147483647) : GW_needNotNegative (I z) = some () := by
  unfold GW_needNotNegative
  rw [if_pos (show (0 : Int32) ≤ I z from I_le_t (a := 0) h1 (by omega) (by omega))]
theorem room_m (hv : HOK v) (hms : MS s v) {r : Nat} (hr : r < hR v) {k : Nat} (hk : k < 8) : ∃ s', GW_room (I (r : Int)) (I (k : Int)) g v s = some (rmI v r k, s') ∧ MSn s s' v := by
  have hR12 := hv.1.2.2.1
  obtain ⟨s1, m1, m2, m3⟩ := measured_s hv.1 hv.2.2.2.2.1 hms g
  obtain ⟨x1, x2, x3⟩ := m2.1 r hr
  unfold GW_room
  rw [needRoom_o hv.1 hr, bind_s]
  obtain e | e | e | e | e | e | e | e : k = 0 ∨ k = 1 ∨ k = 2 ∨ k = 3 ∨ k = 4 ∨ k = 5 ∨ k = 6 ∨ k = 7 := by omega
  · subst e
    refine ⟨s, ?_, Or.inl rfl⟩
    show (gd (inB (I (r : Int)) 12) <| some (House_limits v (Int32.toNatClampNeg (I (r : Int))), s)) = _
    rw [gd_I (by omega) (by omega) (by omega), I_clamp r (by omega)]; rfl
  · subst e
    refine ⟨s1, ?_, Or.inr ⟨m2, m3⟩⟩
    show (Option.bind (GW_measured g v s) fun p63 => gd (inB (I (r : Int)) 12) <| some (Sight_gaps p63 (Int32.toNatClampNeg (I (r : Int))), p63)) = _
    rw [m1, bind_s, gd_I (by omega) (by omega) (by omega), I_clamp r (by omega), x1]; rfl
  · subst e
    refine ⟨s1, ?_, Or.inr ⟨m2, m3⟩⟩
    show (Option.bind (GW_measured g v s) fun p73 => Option.bind (Sight_isLate (I (r : Int)) p73 v) fun p81 => bif p81 then some (1, p73) else some (0, p73)) = some (I ((bif late v r then 1 else 0 : Nat) : Int), s1)
    rw [m1, bind_s, isLate_s hv.1 hv.2.2.2.2.1 hv.2.2.2.1 m2 hr, bind_s]
    cases late v r <;> rfl
  · subst e
    refine ⟨s1, ?_, Or.inr ⟨m2, m3⟩⟩
    show (Option.bind (GW_measured g v s) fun p94 => gd (inB (I (r : Int)) 12) <| some (Sight_seen p94 (Int32.toNatClampNeg (I (r : Int))), p94)) = _
    rw [m1, bind_s, gd_I (by omega) (by omega) (by omega), I_clamp r (by omega), x3]; rfl
  · subst e
    refine ⟨s, ?_, Or.inl rfl⟩
    show (gd (inB (I (r : Int)) 12) <| some (House_sightings v (Int32.toNatClampNeg (I (r : Int))), s)) = _
    rw [gd_I (by omega) (by omega) (by omega), I_clamp r (by omega)]; rfl
  · subst e
    refine ⟨s, ?_, Or.inl rfl⟩
    show (gd (inB (I (r : Int)) 12) <| some (House_lastSeen v (Int32.toNatClampNeg (I (r : Int))), s)) = _
    rw [gd_I (by omega) (by omega) (by omega), I_clamp r (by omega)]; rfl
  · subst e
    refine ⟨s, ?_, Or.inl rfl⟩
    show (gd (inB (I (r : Int)) 12) <| some (House_runs v (Int32.toNatClampNeg (I (r : Int))), s)) = _
    rw [gd_I (by omega) (by omega) (by omega), I_clamp r (by omega)]; rfl
  · subst e
    refine ⟨s, ?_, Or.inl rfl⟩
    show (gd (inB (I (r : Int)) 12) <| some (House_longestRuns v (Int32.toNatClampNeg (I (r : Int))), s)) = _
    rw [gd_I (by omega) (by omega) (by omega), I_clamp r (by omega)]; rfl
theorem door_m (hv : HOK v) {d : Nat} (hd : d < hD v) {k : Nat} (hk : k < 4) : GW_door (I (d : Int)) (I (k : Int)) g v = some (drI v d k) := by
  have hD20 := hv.1.2.2.2.2.1
  unfold GW_door
  rw [needDoor_o hv.1 hd, bind_s]
  obtain e | e | e | e : k = 0 ∨ k = 1 ∨ k = 2 ∨ k = 3 := by omega
  · subst e
    show (gd (inB (I (d : Int)) 20) <| some (House_doorFirst v (Int32.toNatClampNeg (I (d : Int))))) = _
    rw [gd_I (by omega) (by omega) (by omega), I_clamp d (by omega)]; rfl
  · subst e
    show (gd (inB (I (d : Int)) 20) <| some (House_doorSecond v (Int32.toNatClampNeg (I (d : Int))))) = _
    rw [gd_I (by omega) (by omega) (by omega), I_clamp d (by omega)]; rfl
  · subst e
    show (Option.bind (House_isOpen (I (d : Int)) v) fun p61 => bif p61 then some 1 else some 0) = some (I ((bif opn v d then 1 else 0 : Nat) : Int))
    rw [isOpen_s hv.1 (by omega), bind_s, show (hO v).testBit d = opn v d from rfl]
    cases opn v d <;> rfl
  · subst e
    show (Option.bind (House_countGuardsThrough (I (d : Int)) v) fun p78 => some p78) = _
    rw [through_s hv.1 hv.2.1 hv.2.2.2.2.1 hd, bind_s]; rfl
theorem guard_m (hv : HOK v) {q : Nat} (hq : q < hG v) {k : Nat} (hk : k < 4) : GW_guard (I (q : Int)) (I (k : Int)) g v = some (guI v q k) := by
  have hG4 := hv.1.2.2.2.2.2.2.1
  have hR12 := hv.1.2.2.1
  have hM := hv.1.2.2.2.2.2.2.2
  unfold GW_guard
  rw [needGuard_o hv.1 hq, bind_s]
  obtain e | e | e | e : k = 0 ∨ k = 1 ∨ k = 2 ∨ k = 3 := by omega
  · subst e
    show (gd (inB (I (q : Int)) 4) <| some (House_periods v (Int32.toNatClampNeg (I (q : Int))))) = _
    rw [gd_I (by omega) (by omega) (by omega), I_clamp q (by omega)]; rfl
  · subst e
    show (gd (inB (I (q : Int)) 4) <| some (House_phases v (Int32.toNatClampNeg (I (q : Int))))) = _
    rw [gd_I (by omega) (by omega) (by omega), I_clamp q (by omega)]; rfl
  · subst e
    show (Option.bind (House_roomAt (I (q : Int)) (House_minute v) v) fun p68 => some p68) = _
    rw [hM.1, roomAt_s hv.1 hq (hv.2.2.2.2.1 q hq) (by have := hM.2.1; omega), bind_s]; rfl
  · subst e
    obtain ⟨w1, w2, w3, w4, w5⟩ := (hv.2.2.2.2.1 q hq).1
    have hl : hK v q < 2 ^ hR v := by rw [w5]; exact ors_lt fun s hs => bit_lt (w3 s hs).2
    show (gd (inB (I (q : Int)) 4) <| Option.bind (J_bitCount (House_walked v (Int32.toNatClampNeg (I (q : Int))))) fun p81 => some p81) = _
    rw [gd_I (by omega) (by omega) (by omega), I_clamp q (by omega), w4, bitCount_n hl (by omega), bind_s]; rfl
theorem walk_m (hv : HOK v) {q k : Nat} (hq : q < hG v) (hk : k < hP v q) : GW_walk (I (q : Int)) (I (k : Int)) g v = some (I (hW v q k : Int)) := by
  have hp := hv.2.2.2.2.1.per q hq
  unfold GW_walk
  rw [needGuard_o hv.1 hq, bind_s, walkRoom_s hv.1 hq (hv.2.2.2.2.1 q hq).1 (by omega), bind_s, if_pos hk]
theorem roomOf_m (hv : HOK v) {q t : Nat} (hq : q < hG v) (ht : t ≤ 2000000) : GW_roomOf (I (q : Int)) (I (t : Int)) g v = some (I (place v q t : Int)) := by
  unfold GW_roomOf
  rw [needGuard_o hv.1 hq, bind_s, needNN_o (by omega) (by omega), bind_s, roomAt_s hv.1 hq (hv.2.2.2.2.1 q hq) (by omega), bind_s]
theorem guardsIn_m (hv : HOK v) {r t : Nat} (hr : r < hR v) (ht : t ≤ 2000000) : GW_guardsIn (I (r : Int)) (I (t : Int)) g v = some (I (msk (fun q => decide (place v q t = r)) (hG v) : Int)) := by
  have hR12 := hv.1.2.2.1
  unfold GW_guardsIn
  rw [needRoom_o hv.1 hr, bind_s, needNN_o (by omega) (by omega), bind_s, guardsAt_s hv.1 hv.2.2.2.2.1 (by omega) (by omega), bind_s]
/-- is nobody there -/
theorem guardsIn_z (hv : HOK v) {r t : Nat} : (I (msk (fun q => decide (place v q t = r)) (hG v) : Int) = 0) = (Sg v r t = false) := by
  have hG4 := hv.1.2.2.2.2.2.2.1
  cases h : Sg v r t
  · rw [in_no h]; exact propext ⟨fun _ => rfl, fun _ => rfl⟩
  · have hy := in_yes hG4 h
    refine propext ⟨fun e => ?_, fun e => by cases e⟩
    exact absurd e (show ¬ I (msk (fun q => decide (place v q t = r)) (hG v) : Int) = 0 from I_ne (b := 0) (by omega) (by omega) (by omega) (by omega) (by omega))
theorem gapFrom_m (hv : HOK v) (hms : MS s v) {r : Nat} (hr : r < hR v) : ∃ s', GW_gapFrom (I (r : Int)) g v s = some (I (begC (Sg v r) (cyc v)), s') ∧ MSn s s' v := by
  have hR12 := hv.1.2.2.1
  obtain ⟨s1, m1, m2, m3⟩ := measured_s hv.1 hv.2.2.2.2.1 hms g
  refine ⟨s1, ?_, Or.inr ⟨m2, m3⟩⟩
  unfold GW_gapFrom
  rw [needRoom_o hv.1 hr, bind_s, m1, bind_s, gd_I (by omega) (by omega) (by omega), I_clamp r (by omega), (m2.1 r hr).2.1]
theorem isJoined_m (hv : HOK v) {a b : Nat} (ha : a < hR v) (hb : b < hR v) : GW_isJoined (I (a : Int)) (I (b : Int)) g v = some ((jm v a).testBit b) := by
  have hR12 := hv.1.2.2.1
  unfold GW_isJoined
  rw [needRoom_o hv.1 ha, bind_s, needRoom_o hv.1 hb, bind_s, areJoined_s hv.1 hv.2.1 hv.2.2.1 ha (by omega), bind_s]
theorem distance_m (hv : HOK v) {a b : Nat} (ha : a < hR v) (hb : b < hR v) {res : Int} (h : DistIs v a b res) : GW_distance (I (a : Int)) (I (b : Int)) g v = some (I res) := by
  unfold GW_distance
  rw [needRoom_o hv.1 ha, bind_s, needRoom_o hv.1 hb, bind_s, doorsBetween_s hv.1 hv.2.1 hv.2.2.1 ha hb h, bind_s]
theorem meetings_m (hv : HOK v) {a b : Nat} (ha : a < hG v) (hb : b < hG v) : GW_meetings (I (a : Int)) (I (b : Int)) g v = some (I (if a = b then 0 else ((cnt (meetB v a b) (cyc v) : Nat) : Int))) := by
  unfold GW_meetings
  have h := countPair_s (mt := 1) (ps := 0) hv.1 hv.2.2.2.2.1 ha hb
  rw [pair_m] at h
  rw [needGuard_o hv.1 ha, bind_s, needGuard_o hv.1 hb, bind_s, show (1 : Int32) = I 1 from rfl, show (0 : Int32) = I 0 from rfl, h, bind_s]
theorem passings_m (hv : HOK v) {a b : Nat} (ha : a < hG v) (hb : b < hG v) : GW_passings (I (a : Int)) (I (b : Int)) g v = some (I (if a = b then 0 else ((cnt (passB v a b) (cyc v) : Nat) : Int))) := by
  unfold GW_passings
  have h := countPair_s (mt := 0) (ps := 1) hv.1 hv.2.2.2.2.1 ha hb
  rw [pair_p] at h
  rw [needGuard_o hv.1 ha, bind_s, needGuard_o hv.1 hb, bind_s, show (1 : Int32) = I 1 from rfl, show (0 : Int32) = I 0 from rfl, h, bind_s]
theorem arrival_m (hv : HOK v) {a b t : Nat} (ha : a < hR v) (hb : b < hR v) (ht : t ≤ 1000000) (iv : IntrV) {res : Int} (h : ArrIs v t (firstA v a t) b res) : ∃ iv', GW_arrival (I (a : Int)) (I (b : Int)) (I (t : Int)) g v iv = some (I res, iv') := by
  obtain ⟨iv', e⟩ := firstArrival_s hv.1 hv.2.1 hv.2.2.1 hv.2.2.2.2.1 ha hb ht iv h
  refine ⟨iv', ?_⟩
  unfold GW_arrival
  rw [needRoom_o hv.1 ha, bind_s, needRoom_o hv.1 hb, bind_s, show (0 : Int32) = I 0 from rfl, show (1000000 : Int32) = I 1000000 from rfl, needRange_o (by omega) (by omega) (by omega) (by omega), bind_s, e, bind_s]
theorem hiding_m (hv : HOK v) {a t k : Nat} (ha : a < hR v) (ht : t ≤ 1000000) (hk : k ≤ 100) (iv : IntrV) : ∃ iv', GW_hiding (I (a : Int)) (I (t : Int)) (I (k : Int)) g v iv = some (I (SI v t (firstA v a t) k : Int), iv') := by
  obtain ⟨iv', e⟩ := roomsAfter_s hv.1 hv.2.1 hv.2.2.1 hv.2.2.2.2.1 ha ht hk iv
  refine ⟨iv', ?_⟩
  unfold GW_hiding
  rw [needRoom_o hv.1 ha, bind_s, show (0 : Int32) = I 0 from rfl, show (1000000 : Int32) = I 1000000 from rfl, needRange_o (by omega) (by omega) (by omega) (by omega), bind_s, show (100 : Int32) = I 100 from rfl, needRange_o (by omega) (by omega) (by omega) (by omega), bind_s, e, bind_s]
/-- the first minute at which the room is seen -/
theorem nextSeen_loop (hv : HOK v) {r t : Nat} (hr : r < hR v) (ht : t ≤ 1000000) {m0 : Nat} (h0 : m0 < cyc v) (h1 : Sg v r (t + m0) = true) (h2 : ∀ j, j < m0 → Sg v r (t + j) = false) : ∀ (q k m : Nat), m0 = k + q → q < m → GW_nextSeen_23 (I (r : Int)) (I (t : Int)) g v (I (cyc v : Int)) m (I (k : Int)) = some (I ((t + m0 : Nat) : Int)) := by
  have hR12 := hv.1.2.2.1
  have hc := cyc_le hv.2.2.2.2.1
  intro q
  induction q with
  | zero =>
    intro k m hk hm
    obtain ⟨m, rfl⟩ : ∃ q, m = q + 1 := ⟨m - 1, by omega⟩
    obtain rfl : m0 = k := by omega
    rw [GW_nextSeen_23, if_neg (I_le_f (by omega) (by omega) (by omega)), I_add, ← Int.natCast_add, guardsAt_s hv.1 hv.2.2.2.2.1 (by omega) (by omega), bind_s, if_neg (by rw [guardsIn_z hv, h1]; decide)]
  | succ q ih =>
    intro k m hk hm
    obtain ⟨m, rfl⟩ : ∃ q, m = q + 1 := ⟨m - 1, by omega⟩
    rw [GW_nextSeen_23, if_neg (I_le_f (by omega) (by omega) (by omega)), I_add, ← Int.natCast_add, guardsAt_s hv.1 hv.2.2.2.2.1 (by omega) (by omega), bind_s, if_pos (by rw [guardsIn_z hv]; exact h2 k (by omega)), nmL_e, I_succ]
    exact ih (k + 1) m (by omega) (by omega)
theorem nextSeen_m (hv : HOK v) {r t : Nat} (hr : r < hR v) (ht : t ≤ 1000000) {m0 : Nat} (h0 : m0 < cyc v) (h1 : Sg v r (t + m0) = true) (h2 : ∀ j, j < m0 → Sg v r (t + j) = false) : GW_nextSeen (I (r : Int)) (I (t : Int)) g v = some (I ((t + m0 : Nat) : Int)) := by
  have hc := cyc_le hv.2.2.2.2.1
  unfold GW_nextSeen
  rw [needRoom_o hv.1 hr, bind_s, show (0 : Int32) = I 0 from rfl, show (1000000 : Int32) = I 1000000 from rfl, needRange_o (by omega) (by omega) (by omega) (by omega), bind_s, cycleLength_s hv.1 hv.2.2.2.2.1, bind_s]
  exact nextSeen_loop hv hr ht h0 h1 h2 m0 0 FU (by omega) (by unfold FU; omega)
end ANSA
