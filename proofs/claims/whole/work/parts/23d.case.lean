section CASES4
variable {n c L : Nat} {k23 : K23} {xs : Nat → Int32} {v0 : GWV} {v1 v2 v5 v9 : HouseV} {v3 : HistV} {v4 : Nat → HouseV} {v6 v7 v10 : SightV} {v8 : BestV} {v11 : IntrV} {v12 : ToksV} {v14 : QReadV} {v15 v16 : Nat → Int32} {v17 M' : ModelV} {v19 : Nat → Int64}
theorem sel32 (x : Int32) : ∃ z : Int, x = I z ∧ -2147483648 ≤ z ∧ z ≤ 2147483647 := ⟨x.toInt, (I_self x).symm, by have := x.le_toInt; omega, by have := x.toInt_lt; omega⟩
theorem lg_self (x : Int64) : lg_cmp x x = 0 := by
  unfold lg_cmp
  rw [if_neg (show ¬ x > x from Int64.lt_irrefl), if_pos rfl]
section
variable {v : HouseV} {M : ModelV} {z : Int}
theorem needDoor_s (hn : WFn v) (h1 : -2147483648 ≤ z) (h2 : z ≤ 2147483647) (g : GWV) : GW_needDoor (I z) g v = some (if 0 ≤ z ∧ z < hD v then .ok () else .error false) := by
  unfold GW_needDoor
  rw [hasDoor_s hn h1 h2, bind_s]
  by_cases c : 0 ≤ z ∧ z < hD v
  · rw [decide_eq_true c, bif_t, if_pos c]
  · rw [decide_eq_false c, bif_f, if_neg c]
theorem needRoom_s (hn : WFn v) (h1 : -2147483648 ≤ z) (h2 : z ≤ 2147483647) (g : GWV) : GW_needRoom (I z) g v = some (if 0 ≤ z ∧ z < hR v then .ok () else .error false) := by
  unfold GW_needRoom
  rw [hasRoom_s hn h1 h2, bind_s]
  by_cases c : 0 ≤ z ∧ z < hR v
  · rw [decide_eq_true c, bif_t, if_pos c]
  · rw [decide_eq_false c, bif_f, if_neg c]
theorem needGuard_s (hn : WFn v) (h1 : -2147483648 ≤ z) (h2 : z ≤ 2147483647) (g : GWV) : GW_needGuard (I z) g v = some (if 0 ≤ z ∧ z < hG v then .ok () else .error false) := by
  unfold GW_needGuard
  rw [hasGuard_s hn h1 h2, bind_s]
  by_cases c : 0 ≤ z ∧ z < hG v
  · rw [decide_eq_true c, bif_t, if_pos c]
  · rw [decide_eq_false c, bif_f, if_neg c]
theorem isDoor_m (hr : RelM (Model_now M) v) (hn : WFn v) (h1 : -2147483648 ≤ z) (h2 : z ≤ 2147483647) : Mod_isDoor (I z) M = some (decide (0 ≤ z ∧ z < hD v)) := by
  have hD20 : hD v ≤ 20 := hn.2.2.2.2.1
  unfold Mod_isDoor
  rw [gd_t (show inB (1 : Int32) 172 = true from rfl), doors_m hr hn, I1, I_sub, I0, inRange_s h1 h2 (by omega) (by omega) (by omega) (by omega), bind_s]
  exact congrArg some (decide_eq_decide.mpr (by omega))
theorem isRoom_m (hr : RelM (Model_now M) v) (hn : WFn v) (h1 : -2147483648 ≤ z) (h2 : z ≤ 2147483647) : Mod_isRoom (I z) M = some (decide (0 ≤ z ∧ z < hR v)) := by
  have hR12 : hR v ≤ 12 := hn.2.2.1
  unfold Mod_isRoom
  rw [rooms_m hr hn, bind_s, I1, I_sub, I0, inRange_s h1 h2 (by omega) (by omega) (by omega) (by omega), bind_s]
  exact congrArg some (decide_eq_decide.mpr (by omega))
theorem isGuard_m (hr : RelM (Model_now M) v) (hn : WFn v) (h1 : -2147483648 ≤ z) (h2 : z ≤ 2147483647) : Mod_isGuard (I z) M = some (decide (0 ≤ z ∧ z < hG v)) := by
  have hG4 : hG v ≤ 4 := hn.2.2.2.2.2.2.1
  unfold Mod_isGuard
  rw [guards_m hr hn, bind_s, I1, I_sub, I0, inRange_s h1 h2 (by omega) (by omega) (by omega) (by omega), bind_s]
  exact congrArg some (decide_eq_decide.mpr (by omega))
end
/-- what the two answer to a call that changes nothing that lasts -/
def AX (E : Bool → Prop) (M : ModelV) (gw : Option (Except Bool Int32)) (mod : Option (Int32 × ModelV)) : Prop := (∃ a M', gw = some (.ok a) ∧ mod = some (a, M') ∧ Model_thrown M' = 0 ∧ kpA M' = kpA M) ∨ (∃ (b : Bool) (x : Int32) (M' : ModelV), E b ∧ gw = some (.error b) ∧ mod = some (x, M') ∧ Model_thrown M' = (if b = true then 2 else 1) ∧ kpA M' = kpA M)
theorem raise_ax {M : ModelV} (y : Int32) : ∃ M', Mod_raise y (Model_set_thrown M 0) = some (0, M') ∧ Model_thrown M' = y ∧ kpA M' = kpA M := ⟨_, rfl, Mo_thrown_thrown _ _, (kpA_thr _ _).trans (kpA_thr _ _)⟩
/-- a property of a door -/
theorem door_ax {v : HouseV} {M : ModelV} (hv : HOK v) (hr : RelM (Model_now M) v) (g : GWV) (x y : Int32) : AX (fun b => b = false) M (GW_door x y g v) (Mod_door x y M) := by
  obtain ⟨hn, hd, hj, hl, hw, hs⟩ := hv
  have hD20 : hD v ≤ 20 := hn.2.2.2.2.1
  have hr0 : RelM (Model_now (Model_set_thrown M 0)) v := by rw [Mo_now_thrown]; exact hr
  obtain ⟨z, rfl, z1, z2⟩ := sel32 x
  obtain ⟨w, rfl, w1, w2⟩ := sel32 y
  unfold GW_door Mod_door
  rw [needDoor_s hn z1 z2, bind_s, nmL_e, isDoor_m hr0 hn z1 z2, bind_s]
  by_cases c : 0 ≤ z ∧ z < hD v
  · obtain ⟨d, rfl⟩ : ∃ d : Nat, z = (d : Int) := ⟨z.toNat, by omega⟩
    have hdd : d < hD v := by omega
    rw [if_pos c, decide_eq_true c, bif_t, I3, I0, inRange_s w1 w2 (by omega) (by omega) (by omega) (by omega), bind_s, ← I0, ← I3, I_int w1 w2]
    show AX _ M (if w < 0 ∨ 3 < w then _ else _) _
    by_cases c2 : 0 ≤ w ∧ w ≤ 3
    · rw [if_neg (by omega), decide_eq_true c2, bif_t]
      left
      obtain rfl | rfl | rfl | rfl : w = 0 ∨ w = 1 ∨ w = 2 ∨ w = 3 := by omega
      · have e1 := dA_m hr0 hn hd hdd
        rw [if_pos (by decide), gd_I (by omega) (by omega) (by omega), I_clamp d (by omega), if_neg (by decide), show I 0 = (0 : Int32) from rfl, e1, bind_s, (hd d hdd).1]
        exact ⟨_, _, rfl, rfl, Mo_thrown_thrown _ _, kpA_thr _ _⟩
      · have e1 := dB_m hr0 hn hd hdd
        rw [if_neg (by decide), if_pos (by decide), gd_I (by omega) (by omega) (by omega), I_clamp d (by omega), if_neg (by decide), show I 1 = (1 : Int32) from rfl, e1, bind_s, (hd d hdd).2.2.1]
        exact ⟨_, _, rfl, rfl, Mo_thrown_thrown _ _, kpA_thr _ _⟩
      · have e1 := dO_m hr0 hn hdd
        rw [if_neg (by decide), if_neg (by decide), if_pos (by decide), isOpen_s hn (by omega), bind_s, if_neg (by decide), show I 2 = (2 : Int32) from rfl, e1, bind_s]
        show ∃ a M', (bif opn v d then _ else _) = _ ∧ _
        cases opn v d
        · exact ⟨_, _, rfl, rfl, Mo_thrown_thrown _ _, kpA_thr _ _⟩
        · exact ⟨_, _, rfl, rfl, Mo_thrown_thrown _ _, kpA_thr _ _⟩
      · rw [if_neg (by decide), if_neg (by decide), if_neg (by decide), if_pos (by decide), through_s hn hd hw hdd, bind_s, if_pos (by decide), through_m hr0 hn hd hw hdd, bind_s]
        exact ⟨_, _, rfl, rfl, Mo_thrown_thrown _ _, kpA_thr _ _⟩
    · obtain ⟨M', r1, r2, r3⟩ := raise_ax (M := M) 1
      rw [if_pos (by omega), decide_eq_false c2, bif_f]
      unfold Mod_door_22
      rw [r1, bind_s]
      exact Or.inr ⟨false, _, M', rfl, rfl, rfl, r2, r3⟩
  · obtain ⟨M', r1, r2, r3⟩ := raise_ax (M := M) 1
    rw [if_neg c, decide_eq_false c, bif_f]
    unfold Mod_door_22
    rw [r1, bind_s]
    exact Or.inr ⟨false, _, M', rfl, rfl, rfl, r2, r3⟩
theorem case_414 (h : Inv n v0 v1 v3 v4 v5 v6 v8 v12 v17) (hc : c + 6 ≤ L) (hL : L ≤ 3072) : NX n c k23 (Law_414 L xs k23 (I (c : Int)) v0 v1 v2 v3 v4 v5 v6 v7 v8 v9 v10 v11 v12 v14 v15 v16 v17 v19) := by
  have h0 := h
  obtain ⟨Φ, Ψ, ls, b, len, a1, a2, a3, a4, -⟩ := h
  unfold Law_414
  rw [gd_t (in1 hc hL), gd_t (in2 hc hL)]
  unfold L_door
  rcases door_ax a3.1 a4 v0 (xs (Int32.toNatClampNeg (I (c : Int) + 1))) (xs (Int32.toNatClampNeg (I (c : Int) + 2))) with ⟨a, M', e1, e2, e3, e4⟩ | ⟨b, x, M', eb, e1, e2, e3, e4⟩
  · rw [e1, bind_s]
    unfold exC
    dsimp only
    rw [gd_t (show inB (0 : Int32) 1 = true from rfl), nmL_e, bind_s, e2, bind_s]
    unfold Mod_thrown
    rw [bind_s]
    dsimp only
    rw [e3, if_pos rfl, if_pos rfl, gd_t (show inB (0 : Int32) 1 = true from rfl), if_pos (show lg_cmp (vp_updL v19 (Int32.toNatClampNeg 0) (Int32.toInt64 a) (Int32.toNatClampNeg 0)) (Int32.toInt64 a) = 0 by rw [updL_i]; exact lg_self _), nmL_e]
    exact ⟨v0, v1, v2, v3, v4, v5, v6, v7, v8, v9, v10, v11, v12, v14, v15, v16, M', _, rfl, h0.keep e4⟩
  · have eb : b = false := eb
    subst eb
    rw [e1, bind_s]
    unfold exC
    dsimp only
    rw [bif_f, bind_s, e2, bind_s]
    unfold Mod_thrown
    rw [bind_s]
    dsimp only
    rw [e3, if_neg (show ¬ (false = true) by decide), if_pos rfl, if_neg (show ¬ (1 : Int32) = 0 by decide), nmL_e]
    exact ⟨v0, v1, v2, v3, v4, v5, v6, v7, v8, v9, v10, v11, v12, v14, v15, v16, M', _, rfl, h0.keep e4⟩
end CASES4
