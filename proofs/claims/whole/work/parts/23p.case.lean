section CASES15
variable {n c L : Nat} {k23 : K23} {xs : Nat → Int32} {v0 : GWV} {v1 v2 v5 v9 : HouseV} {v3 : HistV} {v4 : Nat → HouseV} {v6 v7 v10 : SightV} {v8 : BestV} {v11 : IntrV} {v12 : ToksV} {v14 : QReadV} {v15 v16 : Nat → Int32} {v17 M' : ModelV} {v19 : Nat → Int64}
/-- an intruder's first arrival -/
theorem firstP_m {v : HouseV} {M : ModelV} (hv : HOK v) (hr : RelM (Model_now M) v) {r m : Nat} (hrr : r < hR v) (hm : m < 2147483648) : ∃ P, Mod_firstRooms (I (r : Int)) (I (m : Int)) (Model_set_thrown M 0) = some (I (firstA v r m : Int), P) ∧ RelM (Model_now P) v ∧ PhM P v (hF v) ∧ (∀ r, r < hR v → Model_joined P r = I (jm v r : Int)) ∧ Model_thrown P = 0 ∧ kpA P = kpA M := by
  obtain ⟨hn, hd, hj, hl, hw, hs⟩ := hv
  have hr0 : RelM (Model_now (Model_set_thrown M 0)) v := by rw [Mo_now_thrown]; exact hr
  obtain ⟨ph, j, e1, e2, e3⟩ := firstRooms_m (M := Model_set_thrown M 0) hr0 hn hd hw hrr hm
  refine ⟨_, e1, rel_jn (rel_ph hr0), e2, fun r h => ?_, ?_, ?_⟩
  · rw [Mo_joined_joined]; exact e3 r h
  · rw [Mo_thrown_joined, Mo_thrown_phases, Mo_thrown_thrown]
  · exact (congrArg (fun q => q.2) ((kp_joined (Model_set_phases (Model_set_thrown M 0) ph) j).trans (kp_phases (Model_set_thrown M 0) ph))).trans (kpA_thr _ _)
theorem arrival_ay {v : HouseV} {M : ModelV} (hv : HOK v) (hr : RelM (Model_now M) v) (g : GWV) (iv : IntrV) (x y t : Int32) : AY (fun _ => True) M (GW_arrival x y t g v iv) (Mod_arrival x y t M) (fun _ M' => kpA M' = kpA M) := by
  have hv0 := hv
  obtain ⟨hn, hd, hj, hl, hw, hs⟩ := hv
  have hR12 : hR v ≤ 12 := hn.2.2.1
  have hc := cyc_le hw
  obtain ⟨z, rfl, z1, z2⟩ := sel32 x
  obtain ⟨w, rfl, w1, w2⟩ := sel32 y
  obtain ⟨u, rfl, u1, u2⟩ := sel32 t
  unfold GW_arrival Mod_arrival
  rw [needRoom_s hn z1 z2, bind_s, isRoom_m hr hn z1 z2, bind_s]
  by_cases c : 0 ≤ z ∧ z < hR v
  · obtain ⟨a, rfl⟩ : ∃ d : Nat, z = (d : Int) := ⟨z.toNat, by omega⟩
    have ha : a < hR v := by omega
    rw [if_pos c, decide_eq_true c, bif_t]
    unfold exK
    dsimp only
    rw [needRoom_s hn w1 w2, bind_s, isRoom_m hr hn w1 w2, bind_s]
    by_cases c2 : 0 ≤ w ∧ w < hR v
    · obtain ⟨b, rfl⟩ : ∃ d : Nat, w = (d : Int) := ⟨w.toNat, by omega⟩
      have hb : b < hR v := by omega
      rw [if_pos c2, decide_eq_true c2, bif_t]
      dsimp only
      rw [needMinute_s u1 u2, bind_s, isMinute_m u1 u2, bind_s]
      unfold Mod_arrival_33
      by_cases c3 : 0 ≤ u ∧ u ≤ 1000000
      · obtain ⟨m, rfl⟩ : ∃ d : Nat, u = (d : Int) := ⟨u.toNat, by omega⟩
        have hm : m ≤ 1000000 := by omega
        obtain ⟨P, p0, p1, p2, p5, p3, p4⟩ := firstP_m (M := M) (m := m) hv0 hr ha (by omega)
        obtain ⟨res, ha2⟩ := arr_ex v m (firstA v a m) b
        obtain ⟨iv', i1⟩ := firstArrival_s hn hd hj hw ha hb hm iv ha2
        have hA : firstA v a m < 2 ^ hR v := firstA_lt ha
        have i2 := arrival_m p1 hn hd hw p2 p5 (x1 := I (a : Int)) (to := b) (by omega) hm hA ha2
        have hmul : I (cyc v : Int) * I (hR v : Int) = I ((cyc v * hR v : Nat) : Int) := by rw [I_mul]; rfl
        rw [if_pos c3, decide_eq_true c3, bif_t]
        dsimp only
        rw [i1, bind_s, nmL_e, if_pos (Mo_thrown_thrown M 0), p0, bind_s]
        dsimp only
        rw [cycle_m p1 hn hw, bind_s, rooms_m p1 hn, bind_s, nmL_e, hmul, i2]
        exact Or.inl ⟨_, _, P, rfl, rfl, p3, p4⟩
      · rw [if_neg c3, decide_eq_false c3, bif_f]
        dsimp only
        rw [nmL_e, if_neg (thr_no (by decide))]
        exact Or.inr ⟨true, _, _, trivial, rfl, rfl, Mo_thrown_thrown _ _, kpA_thr _ _⟩
    · rw [if_neg c2, decide_eq_false c2, bif_f]
      unfold Mod_arrival_17 Mod_arrival_33
      dsimp only
      rw [nmL_e, if_neg (thr_no (by decide))]
      exact Or.inr ⟨false, _, _, trivial, rfl, rfl, Mo_thrown_thrown _ _, kpA_thr _ _⟩
  · rw [if_neg c, decide_eq_false c, bif_f]
    unfold exK Mod_arrival_17 Mod_arrival_33
    dsimp only
    rw [nmL_e, if_neg (thr_no (by decide))]
    exact Or.inr ⟨false, _, _, trivial, rfl, rfl, Mo_thrown_thrown _ _, kpA_thr _ _⟩
theorem case_1455 (h : Inv n v0 v1 v3 v4 v5 v6 v8 v12 v17) (hc : c + 6 ≤ L) (hL : L ≤ 3072) : NX n c k23 (Law_1455 L xs k23 (I (c : Int)) v0 v1 v2 v3 v4 v5 v6 v7 v8 v9 v10 v11 v12 v14 v15 v16 v17 v19) := by
  have h0 := h
  obtain ⟨Φ, Ψ, ls, b, len, a1, a2, a3, a4, a5, a6, a7, a8, a9, a10, a11, a12, a13⟩ := h
  unfold Law_1455
  rw [gd_t (in1 hc hL), gd_t (in2 hc hL), gd_t (in3 hc hL)]
  unfold L_arrival
  rcases arrival_ay a3.1 a4 v0 v11 (xs (Int32.toNatClampNeg (I (c : Int) + 1))) (xs (Int32.toNatClampNeg (I (c : Int) + 2))) (xs (Int32.toNatClampNeg (I (c : Int) + 3))) with ⟨a, s, M', e1, e2, e3, e4⟩ | ⟨b, x, M', eb, e1, e2, e3, e4⟩
  · rw [e1, bind_s]
    unfold exC
    dsimp only
    rw [gd_t (show inB (0 : Int32) 1 = true from rfl), nmL_e, bind_s, e2, bind_s]
    unfold Mod_thrown
    rw [bind_s]
    dsimp only
    rw [e3, if_pos rfl, if_pos rfl, gd_t (show inB (0 : Int32) 1 = true from rfl), if_pos (show lg_cmp (vp_updL v19 (Int32.toNatClampNeg 0) (Int32.toInt64 a) (Int32.toNatClampNeg 0)) (Int32.toInt64 a) = 0 by rw [updL_i]; exact lg_self _), nmL_e]
    exact ⟨v0, v1, v2, v3, v4, v5, v6, v7, v8, v9, v10, s, v12, v14, v15, v16, M', _, rfl, h0.keep e4⟩
  · rw [e1, bind_s]
    unfold exC
    dsimp only
    cases b
    · rw [bif_f, bind_s, e2, bind_s]
      unfold Mod_thrown
      rw [bind_s]
      dsimp only
      rw [e3, if_neg (show ¬ (false = true) by decide), if_pos rfl, if_neg (show ¬ (1 : Int32) = 0 by decide), nmL_e]
      exact ⟨v0, v1, v2, v3, v4, v5, v6, v7, v8, v9, v10, v11, v12, v14, v15, v16, M', _, rfl, h0.keep e4⟩
    · rw [bif_t, bind_s, e2, bind_s]
      unfold Mod_thrown
      rw [bind_s]
      dsimp only
      rw [e3, if_pos (show true = true from rfl), if_pos rfl, if_neg (show ¬ (2 : Int32) = 0 by decide), nmL_e]
      exact ⟨v0, v1, v2, v3, v4, v5, v6, v7, v8, v9, v10, v11, v12, v14, v15, v16, M', _, rfl, h0.keep e4⟩
/-- where an intruder can be -/
theorem hiding_ay {v : HouseV} {M : ModelV} (hv : HOK v) (hr : RelM (Model_now M) v) (g : GWV) (iv : IntrV) (x y t : Int32) : AY (fun _ => True) M (GW_hiding x y t g v iv) (Mod_hiding x y t M) (fun _ M' => kpA M' = kpA M) := by
  have hv0 := hv
  obtain ⟨hn, hd, hj, hl, hw, hs⟩ := hv
  have hR12 : hR v ≤ 12 := hn.2.2.1
  obtain ⟨z, rfl, z1, z2⟩ := sel32 x
  obtain ⟨w, rfl, w1, w2⟩ := sel32 y
  obtain ⟨u, rfl, u1, u2⟩ := sel32 t
  have hin : Mod_inRange (I u) 0 100 = some (decide (0 ≤ u ∧ u ≤ 100)) := inRange_s (a := 0) (b := 100) u1 u2 (by omega) (by omega) (by omega) (by omega)
  have hne : GW_needRange (I u) 0 100 = some (if 0 ≤ u ∧ u ≤ 100 then .ok () else .error true) := needRange_s (lo := 0) (hi := 100) u1 u2 (by omega) (by omega) (by omega) (by omega)
  unfold GW_hiding Mod_hiding
  rw [needRoom_s hn z1 z2, bind_s, isRoom_m hr hn z1 z2, bind_s]
  by_cases c : 0 ≤ z ∧ z < hR v
  · obtain ⟨a, rfl⟩ : ∃ d : Nat, z = (d : Int) := ⟨z.toNat, by omega⟩
    have ha : a < hR v := by omega
    rw [if_pos c, decide_eq_true c, bif_t]
    unfold exK
    dsimp only
    rw [needMinute_s w1 w2, bind_s, isMinute_m w1 w2, bind_s]
    by_cases c2 : 0 ≤ w ∧ w ≤ 1000000
    · obtain ⟨m, rfl⟩ : ∃ d : Nat, w = (d : Int) := ⟨w.toNat, by omega⟩
      have hm : m ≤ 1000000 := by omega
      rw [if_pos c2, decide_eq_true c2, bif_t, hin, bind_s]
      dsimp only
      rw [hne, bind_s]
      by_cases c3 : 0 ≤ u ∧ u ≤ 100
      · obtain ⟨k, rfl⟩ : ∃ d : Nat, u = (d : Int) := ⟨u.toNat, by omega⟩
        have hk : k ≤ 100 := by omega
        obtain ⟨P, p0, p1, p2, p5, p3, p4⟩ := firstP_m (M := M) (m := m) hv0 hr ha (by omega)
        have hA : firstA v a m < 2 ^ hR v := firstA_lt ha
        obtain ⟨iv', i1⟩ := roomsAfter_s hn hd hj hw ha hm hk iv
        have i2 : Mod_hiding_58 (I (a : Int)) (I (m : Int)) (I (k : Int)) FU (I (firstA v a m : Int)) 0 P = _ := hiding_loop_m p1 hn hd hw p2 p5 (x1 := I (a : Int)) hm hk hA k 0 FU (by omega) (by unfold FU; omega)
        rw [if_pos c3, decide_eq_true c3, bif_t]
        unfold Mod_hiding_35
        dsimp only
        rw [i1, bind_s, nmL_e, if_pos (Mo_thrown_thrown M 0), p0, bind_s]
        dsimp only
        rw [i2]
        exact Or.inl ⟨_, _, P, rfl, rfl, p3, p4⟩
      · rw [if_neg c3, decide_eq_false c3, bif_f]
        unfold Mod_hiding_34 Mod_hiding_35
        dsimp only
        rw [nmL_e, if_neg (thr_no (by decide))]
        exact Or.inr ⟨true, _, _, trivial, rfl, rfl, Mo_thrown_thrown _ _, kpA_thr _ _⟩
    · rw [if_neg c2, decide_eq_false c2, bif_f]
      unfold Mod_hiding_34 Mod_hiding_35
      dsimp only
      rw [nmL_e, if_neg (thr_no (by decide))]
      exact Or.inr ⟨true, _, _, trivial, rfl, rfl, Mo_thrown_thrown _ _, kpA_thr _ _⟩
  · rw [if_neg c, decide_eq_false c, bif_f]
    unfold exK Mod_hiding_35
    dsimp only
    rw [nmL_e, if_neg (thr_no (by decide))]
    exact Or.inr ⟨false, _, _, trivial, rfl, rfl, Mo_thrown_thrown _ _, kpA_thr _ _⟩
theorem case_1535 (h : Inv n v0 v1 v3 v4 v5 v6 v8 v12 v17) (hc : c + 6 ≤ L) (hL : L ≤ 3072) : NX n c k23 (Law_1535 L xs k23 (I (c : Int)) v0 v1 v2 v3 v4 v5 v6 v7 v8 v9 v10 v11 v12 v14 v15 v16 v17 v19) := by
  have h0 := h
  obtain ⟨Φ, Ψ, ls, b, len, a1, a2, a3, a4, a5, a6, a7, a8, a9, a10, a11, a12, a13⟩ := h
  unfold Law_1535
  rw [gd_t (in1 hc hL), gd_t (in2 hc hL), gd_t (in3 hc hL)]
  unfold L_hiding
  rcases hiding_ay a3.1 a4 v0 v11 (xs (Int32.toNatClampNeg (I (c : Int) + 1))) (xs (Int32.toNatClampNeg (I (c : Int) + 2))) (xs (Int32.toNatClampNeg (I (c : Int) + 3))) with ⟨a, s, M', e1, e2, e3, e4⟩ | ⟨b, x, M', eb, e1, e2, e3, e4⟩
  · rw [e1, bind_s]
    unfold exC
    dsimp only
    rw [gd_t (show inB (0 : Int32) 1 = true from rfl), nmL_e, bind_s, e2, bind_s]
    unfold Mod_thrown
    rw [bind_s]
    dsimp only
    rw [e3, if_pos rfl, if_pos rfl, gd_t (show inB (0 : Int32) 1 = true from rfl), if_pos (show lg_cmp (vp_updL v19 (Int32.toNatClampNeg 0) (Int32.toInt64 a) (Int32.toNatClampNeg 0)) (Int32.toInt64 a) = 0 by rw [updL_i]; exact lg_self _), nmL_e]
    exact ⟨v0, v1, v2, v3, v4, v5, v6, v7, v8, v9, v10, s, v12, v14, v15, v16, M', _, rfl, h0.keep e4⟩
  · rw [e1, bind_s]
    unfold exC
    dsimp only
    cases b
    · rw [bif_f, bind_s, e2, bind_s]
      unfold Mod_thrown
      rw [bind_s]
      dsimp only
      rw [e3, if_neg (show ¬ (false = true) by decide), if_pos rfl, if_neg (show ¬ (1 : Int32) = 0 by decide), nmL_e]
      exact ⟨v0, v1, v2, v3, v4, v5, v6, v7, v8, v9, v10, v11, v12, v14, v15, v16, M', _, rfl, h0.keep e4⟩
    · rw [bif_t, bind_s, e2, bind_s]
      unfold Mod_thrown
      rw [bind_s]
      dsimp only
      rw [e3, if_pos (show true = true from rfl), if_pos rfl, if_neg (show ¬ (2 : Int32) = 0 by decide), nmL_e]
      exact ⟨v0, v1, v2, v3, v4, v5, v6, v7, v8, v9, v10, v11, v12, v14, v15, v16, M', _, rfl, h0.keep e4⟩
theorem stay_ex (v : HouseV) (m A : Nat) (h : A ≠ 0) : ∃ N, N ≤ 100 ∧ (N < 100 → SI v m A (N + 1) = 0) ∧ ∀ j, j ≤ N → SI v m A j ≠ 0 := by
  by_cases c : ∃ k, SI v m A k = 0
  · obtain ⟨k, k1, k2⟩ := least c
    have k0 : k ≠ 0 := fun e => h (by rw [e] at k1; exact k1)
    by_cases c2 : k ≤ 100
    · exact ⟨k - 1, by omega, fun _ => by rw [show k - 1 + 1 = k by omega]; exact k1, fun j hj => k2 j (by omega)⟩
    · exact ⟨100, by omega, fun hh => absurd hh (by omega), fun j hj => k2 j (by omega)⟩
  · exact ⟨100, by omega, fun hh => absurd hh (by omega), fun j hj e => c ⟨j, e⟩⟩
/-- the longest stay from now on -/
theorem case_1615 (h : Inv n v0 v1 v3 v4 v5 v6 v8 v12 v17) : NX n c k23 (Law_1615 L xs k23 (I (c : Int)) v0 v1 v2 v3 v4 v5 v6 v7 v8 v9 v10 v11 v12 v14 v15 v16 v17 v19) := by
  have h0 := h
  obtain ⟨Φ, Ψ, ls, b, len, a1, a2, a3, a4, -⟩ := h
  have hv := a3.1
  obtain ⟨P0, t1, p1, p2, p3, p4⟩ := taken_m hv a4
  obtain ⟨hn, hd, hj, hl, hw, hs⟩ := hv
  have hR12 : hR v1 ≤ 12 := hn.2.2.1
  have hM9 : hM v1 ≤ 99999 := hn.2.2.2.2.2.2.2.2.1
  obtain ⟨j, j1, j2⟩ := layJoined_m (M := P0) p1 hn hd
  have hP : ∃ P, P = Model_set_joined P0 j ∧ RelM (Model_now P) v1 ∧ PhM P v1 (hF v1) ∧ (∀ r, r < hR v1 → Model_joined P r = I (jm v1 r : Int)) ∧ kpA P = kpA v17 := by
    refine ⟨_, rfl, rel_jn p1, ph_jn p2, fun r h => ?_, (congrArg (fun q => q.2) (kp_joined P0 j)).trans p4⟩
    rw [Mo_joined_joined]; exact j2 r h
  obtain ⟨P, q0, q1, q2, q3, q4⟩ := hP
  have e3 : Model_now P (Int32.toNatClampNeg 3) = I (hM v1 : Int) := q1.2.2.2.1.trans hn.2.2.2.2.2.2.2.1
  have hset : I ((2 ^ hR v1 - 1 : Nat) : Int) &&& (I (seen v1 (hM v1) : Int) ^^^ (-1)) = I (allA v1 (hM v1) : Int) := I_andn _ _
  have hA := allA_lt v1 (hM v1)
  have key : ∃ r iv, GW_longestStay v0 v1 v11 = some (r, iv) ∧ Mod_longestStay v17 = some (r, P) := by
    unfold GW_longestStay Intr_minutesFromNow House_allRooms Mod_longestStay
    rw [bind_s, hn.1, allRooms_e hR12, hn.2.2.2.2.2.2.2.1, roomsSeenAt_s hn hw (by omega), bind_s, nmL_e, hset, nmL_e, t1, bind_s, j1, bind_s, ← q0, rooms_m q1 hn, bind_s, gd_t (show inB (3 : Int32) 172 = true from rfl), e3, seenm q1 hn hw q2 (by omega), bind_s, nmL_e, allRooms_e hR12, hset]
    have hb : allA v1 (hM v1) < 4096 := Nat.lt_of_lt_of_le hA (pow31 hR12)
    by_cases c : allA v1 (hM v1) = 0
    · rw [if_pos (show I (allA v1 (hM v1) : Int) = (0 : Int32) by rw [c]; rfl), bind_s, show FU = 199999 + 1 from rfl, Mod_longestStay_37, if_pos (show I (allA v1 (hM v1) : Int) = (0 : Int32) by rw [c]; rfl)]
      exact ⟨_, _, rfl, rfl⟩
    · have hne : ¬ I (allA v1 (hM v1) : Int) = (0 : Int32) := I_ne (b := 0) (by omega) (by omega) (by omega) (by omega) (by omega)
      obtain ⟨N, n1, n2, n3⟩ := stay_ex v1 (hM v1) (allA v1 (hM v1)) c
      obtain ⟨iv', s1⟩ := stay_s hn hd hj hw hA n1 n2 n3 N 0 FU v11 (by omega) (by unfold FU; omega)
      have s1' : Intr_minutesFromNow_24 v1 FU (I (allA v1 (hM v1) : Int)) 0 v11 = some (I (N : Int), iv') := s1
      have s2 := stay_m q1 hn hd hw q2 q3 hA n1 n2 n3 N 0 199999 (by omega) (by omega)
      have hx := nextRooms_m q1 hn hd hw q2 q3 (t := hM v1) (by omega) hA
      have s2' : Mod_longestStay_37 199999 (I (nx v1 (hM v1) (allA v1 (hM v1)) : Int)) 0 P = some (I (N : Int), P) := s2
      rw [if_neg hne, s1', bind_s, show FU = 199999 + 1 from rfl, Mod_longestStay_37, if_neg hne, if_neg (show ¬ (100 : Int32) ≤ -1 by decide), nmL_e, gd_t (show inB (3 : Int32) 172 = true from rfl), e3, show (-1 : Int32) + 1 = 0 from rfl, show I (hM v1 : Int) + 0 = I (hM v1 : Int) by rw [I0, I_add, Int.add_zero], hx, bind_s, s2']
      exact ⟨_, _, rfl, rfl⟩
  obtain ⟨r, iv, k1, k2⟩ := key
  unfold Law_1615
  rw [k1, bind_s, k2, bind_s]
  dsimp only
  rw [if_pos rfl, nmL_e]
  exact ⟨v0, v1, v2, v3, v4, v5, v6, v7, v8, v9, v10, iv, v12, v14, v15, v16, P, v19, rfl, h0.keep q4⟩
end CASES15
