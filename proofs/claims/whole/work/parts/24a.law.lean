section LAWALL
variable {n c L : Nat} {k23 : K23} {xs : Nat → Int32} {v0 : GWV} {v1 v2 v5 v9 : HouseV} {v3 : HistV} {v4 : Nat → HouseV} {v6 v7 v10 : SightV} {v8 : BestV} {v11 : IntrV} {v12 : ToksV} {v14 : QReadV} {v15 v16 : Nat → Int32} {v17 M' : ModelV} {v19 : Nat → Int64}
theorem ite_ok {α : Type} {p : Prop} [Decidable p] {x y : Option α} {r : Option α} (h1 : p → x = r) (h2 : ¬ p → y = r) : (if p then x else y) = r := by
  by_cases h : p
  · rw [if_pos h]; exact h1 h
  · rw [if_neg h]; exact h2 h
theorem nx_end {r : Option Unit} (hN : NX n c k23 r) (hk : ∀ (v0 : GWV) (v1 : HouseV) (v2 : HouseV) (v3 : HistV) (v4 : Nat → HouseV) (v5 : HouseV) (v6 : SightV) (v7 : SightV) (v8 : BestV) (v9 : HouseV) (v10 : SightV) (v11 : IntrV) (v12 : ToksV) (v14 : QReadV) (v15 : Nat → Int32) (v16 : Nat → Int32) (v17 : ModelV) (v19 : Nat → Int64), Inv (n + 1) v0 v1 v3 v4 v5 v6 v8 v12 v17 → k23 (I (c : Int) + 6) v0 v1 v2 v3 v4 v5 v6 v7 v8 v9 v10 v11 v12 v14 v15 v16 v17 v19 = some ()) : r = some () := by
  obtain ⟨v0, v1, v2, v3, v4, v5, v6, v7, v8, v9, v10, v11, v12, v14, v15, v16, v17, v19, rfl, hI⟩ := hN
  exact hk _ _ _ _ _ _ _ _ _ _ _ _ _ _ _ _ _ _ hI
/-- a number under 64 of the script, masked -/
theorem sel_no {y : Int32} (h0 : ¬ (Int32.toInt y < 0 ∨ 39 < Int32.toInt y)) (t0 : ¬ y = 0) (t1 : ¬ y = 1) (t2 : ¬ y = 2) (t3 : ¬ y = 3) (t4 : ¬ y = 4) (t5 : ¬ y = 5) (t6 : ¬ y = 6) (t7 : ¬ y = 7) (t8 : ¬ y = 8) (t9 : ¬ y = 9) (t10 : ¬ y = 10) (t11 : ¬ y = 11) (t12 : ¬ y = 12) (t13 : ¬ y = 13) (t14 : ¬ y = 14) (t15 : ¬ y = 15) (t16 : ¬ y = 16) (t17 : ¬ y = 17) (t18 : ¬ y = 18) (t19 : ¬ y = 19) (t20 : ¬ y = 20) (t21 : ¬ y = 21) (t22 : ¬ y = 22) (t23 : ¬ y = 23) (t24 : ¬ y = 24) (t25 : ¬ y = 25) (t26 : ¬ y = 26) (t27 : ¬ y = 27) (t28 : ¬ y = 28) (t29 : ¬ y = 29) (t30 : ¬ y = 30) (t31 : ¬ y = 31) (t32 : ¬ y = 32) (t33 : ¬ y = 33) (t34 : ¬ y = 34) (t35 : ¬ y = 35) (t36 : ¬ y = 36) (t37 : ¬ y = 37) (t38 : ¬ y = 38) (t39 : ¬ y = 39) : False := by
  have hy : y = I y.toInt := (I_self y).symm
  have g0 : y.toInt ≠ 0 := fun e => t0 (by rw [hy, e]; rfl)
  have g1 : y.toInt ≠ 1 := fun e => t1 (by rw [hy, e]; rfl)
  have g2 : y.toInt ≠ 2 := fun e => t2 (by rw [hy, e]; rfl)
  have g3 : y.toInt ≠ 3 := fun e => t3 (by rw [hy, e]; rfl)
  have g4 : y.toInt ≠ 4 := fun e => t4 (by rw [hy, e]; rfl)
  have g5 : y.toInt ≠ 5 := fun e => t5 (by rw [hy, e]; rfl)
  have g6 : y.toInt ≠ 6 := fun e => t6 (by rw [hy, e]; rfl)
  have g7 : y.toInt ≠ 7 := fun e => t7 (by rw [hy, e]; rfl)
  have g8 : y.toInt ≠ 8 := fun e => t8 (by rw [hy, e]; rfl)
  have g9 : y.toInt ≠ 9 := fun e => t9 (by rw [hy, e]; rfl)
  have g10 : y.toInt ≠ 10 := fun e => t10 (by rw [hy, e]; rfl)
  have g11 : y.toInt ≠ 11 := fun e => t11 (by rw [hy, e]; rfl)
  have g12 : y.toInt ≠ 12 := fun e => t12 (by rw [hy, e]; rfl)
  have g13 : y.toInt ≠ 13 := fun e => t13 (by rw [hy, e]; rfl)
  have g14 : y.toInt ≠ 14 := fun e => t14 (by rw [hy, e]; rfl)
  have g15 : y.toInt ≠ 15 := fun e => t15 (by rw [hy, e]; rfl)
  have g16 : y.toInt ≠ 16 := fun e => t16 (by rw [hy, e]; rfl)
  have g17 : y.toInt ≠ 17 := fun e => t17 (by rw [hy, e]; rfl)
  have g18 : y.toInt ≠ 18 := fun e => t18 (by rw [hy, e]; rfl)
  have g19 : y.toInt ≠ 19 := fun e => t19 (by rw [hy, e]; rfl)
  have g20 : y.toInt ≠ 20 := fun e => t20 (by rw [hy, e]; rfl)
  have g21 : y.toInt ≠ 21 := fun e => t21 (by rw [hy, e]; rfl)
  have g22 : y.toInt ≠ 22 := fun e => t22 (by rw [hy, e]; rfl)
  have g23 : y.toInt ≠ 23 := fun e => t23 (by rw [hy, e]; rfl)
  have g24 : y.toInt ≠ 24 := fun e => t24 (by rw [hy, e]; rfl)
  have g25 : y.toInt ≠ 25 := fun e => t25 (by rw [hy, e]; rfl)
  have g26 : y.toInt ≠ 26 := fun e => t26 (by rw [hy, e]; rfl)
  have g27 : y.toInt ≠ 27 := fun e => t27 (by rw [hy, e]; rfl)
  have g28 : y.toInt ≠ 28 := fun e => t28 (by rw [hy, e]; rfl)
  have g29 : y.toInt ≠ 29 := fun e => t29 (by rw [hy, e]; rfl)
  have g30 : y.toInt ≠ 30 := fun e => t30 (by rw [hy, e]; rfl)
  have g31 : y.toInt ≠ 31 := fun e => t31 (by rw [hy, e]; rfl)
  have g32 : y.toInt ≠ 32 := fun e => t32 (by rw [hy, e]; rfl)
  have g33 : y.toInt ≠ 33 := fun e => t33 (by rw [hy, e]; rfl)
  have g34 : y.toInt ≠ 34 := fun e => t34 (by rw [hy, e]; rfl)
  have g35 : y.toInt ≠ 35 := fun e => t35 (by rw [hy, e]; rfl)
  have g36 : y.toInt ≠ 36 := fun e => t36 (by rw [hy, e]; rfl)
  have g37 : y.toInt ≠ 37 := fun e => t37 (by rw [hy, e]; rfl)
  have g38 : y.toInt ≠ 38 := fun e => t38 (by rw [hy, e]; rfl)
  have g39 : y.toInt ≠ 39 := fun e => t39 (by rw [hy, e]; rfl)
  omega
set_option maxHeartbeats 4000000 in
set_option maxRecDepth 100000 in
/-- every script is gone through -/
theorem law_all {L : Nat} (hL : L ≤ 3072) (xs : Nat → Int32) : ∀ (q c n m : Nat) (v0 : GWV) (v1 : HouseV) (v2 : HouseV) (v3 : HistV) (v4 : Nat → HouseV) (v5 : HouseV) (v6 : SightV) (v7 : SightV) (v8 : BestV) (v9 : HouseV) (v10 : SightV) (v11 : IntrV) (v12 : ToksV) (v14 : QReadV) (v15 : Nat → Int32) (v16 : Nat → Int32) (v17 : ModelV) (v19 : Nat → Int64), L ≤ c + 6 * q + 5 → c ≤ 4000 → n + q ≤ 90000 → q < m → Inv n v0 v1 v3 v4 v5 v6 v8 v12 v17 → Law_23 L xs m (I (c : Int)) v0 v1 v2 v3 v4 v5 v6 v7 v8 v9 v10 v11 v12 v14 v15 v16 v17 v19 = some () := by
  have hLI : (Int32.ofNat L) - 6 = I ((L : Int) - 6) := by rw [← I_ofNat, I6, I_sub]
  intro q
  induction q with
  | zero =>
    intro c n m v0 v1 v2 v3 v4 v5 v6 v7 v8 v9 v10 v11 v12 v14 v15 v16 v17 v19 h1 h2 h3 h4 h
    obtain ⟨m, rfl⟩ : ∃ j, m = j + 1 := ⟨m - 1, by omega⟩
    rw [Law_23, hLI, if_pos (I_lt_t (by omega) (by omega) (by omega))]
  | succ q ih =>
    intro c n m v0 v1 v2 v3 v4 v5 v6 v7 v8 v9 v10 v11 v12 v14 v15 v16 v17 v19 h1 h2 h3 h4 h
    obtain ⟨m, rfl⟩ : ∃ j, m = j + 1 := ⟨m - 1, by omega⟩
    rw [Law_23, hLI]
    refine ite_ok (fun _ => rfl) (fun hlt => ?_)
    have hc : c + 6 ≤ L := by
      rw [I_lt (by omega) (by omega) (by omega) (by omega)] at hlt
      omega
    have hn : n ≤ 100000 := by omega
    have hn' : n ≤ 99999 := by omega
    have hk : ∀ (v0 : GWV) (v1 : HouseV) (v2 : HouseV) (v3 : HistV) (v4 : Nat → HouseV) (v5 : HouseV) (v6 : SightV) (v7 : SightV) (v8 : BestV) (v9 : HouseV) (v10 : SightV) (v11 : IntrV) (v12 : ToksV) (v14 : QReadV) (v15 : Nat → Int32) (v16 : Nat → Int32) (v17 : ModelV) (v19 : Nat → Int64), Inv (n + 1) v0 v1 v3 v4 v5 v6 v8 v12 v17 → Law_23 L xs m (I (c : Int) + 6) v0 v1 v2 v3 v4 v5 v6 v7 v8 v9 v10 v11 v12 v14 v15 v16 v17 v19 = some () := by
      intro v0 v1 v2 v3 v4 v5 v6 v7 v8 v9 v10 v11 v12 v14 v15 v16 v17 v19 hI
      rw [I6, I_add]
      exact ih (c + 6) (n + 1) m v0 v1 v2 v3 v4 v5 v6 v7 v8 v9 v10 v11 v12 v14 v15 v16 v17 v19 (by omega) (by omega) (by omega) (by omega) hI
    rw [gd_I (by omega) (by omega) (by omega)]
    refine ite_ok (fun _ => ?_) (fun s0 => ?_)
    · rw [nmL_e]
      exact hk v0 v1 v2 v3 v4 v5 v6 v7 v8 v9 v10 v11 v12 v14 v15 v16 v17 v19 (h.keep rfl)
    refine ite_ok (fun _ => nx_end (case_216 h hc hL) hk) (fun t0 => ?_)
    refine ite_ok (fun _ => nx_end (case_289 h hc hL) hk) (fun t1 => ?_)
    refine ite_ok (fun _ => nx_end (case_345 h) hk) (fun t2 => ?_)
    refine ite_ok (fun _ => nx_end (case_358 h hn hc hL) hk) (fun t3 => ?_)
    refine ite_ok (fun _ => nx_end (case_414 h hc hL) hk) (fun t4 => ?_)
    refine ite_ok (fun _ => nx_end (case_482 h hn hc hL) hk) (fun t5 => ?_)
    refine ite_ok (fun _ => nx_end (case_550 h hc hL) hk) (fun t6 => ?_)
    refine ite_ok (fun _ => nx_end (case_618 h hc hL) hk) (fun t7 => ?_)
    refine ite_ok (fun _ => nx_end (case_686 h hc hL) hk) (fun t8 => ?_)
    refine ite_ok (fun _ => nx_end (case_754 h hc hL) hk) (fun t9 => ?_)
    refine ite_ok (fun _ => nx_end (case_822 h hc hL) hk) (fun t10 => ?_)
    refine ite_ok (fun _ => nx_end (case_890 h hn hc hL) hk) (fun t11 => ?_)
    refine ite_ok (fun _ => nx_end (case_946 h hc hL) hk) (fun t12 => ?_)
    refine ite_ok (fun _ => nx_end (case_1021 h hc hL) hk) (fun t13 => ?_)
    refine ite_ok (fun _ => nx_end (case_1089 h hc hL) hk) (fun t14 => ?_)
    refine ite_ok (fun _ => nx_end (case_1157 h hc hL) hk) (fun t15 => ?_)
    refine ite_ok (fun _ => nx_end (case_1225 h hc hL) hk) (fun t16 => ?_)
    refine ite_ok (fun _ => nx_end (case_1305 h hc hL) hk) (fun t17 => ?_)
    refine ite_ok (fun _ => nx_end (case_1373 h hn) hk) (fun t18 => ?_)
    refine ite_ok (fun _ => nx_end (case_1386 h hn) hk) (fun t19 => ?_)
    refine ite_ok (fun _ => nx_end (case_1399 h hn hc hL) hk) (fun t20 => ?_)
    refine ite_ok (fun _ => nx_end (case_1455 h hc hL) hk) (fun t21 => ?_)
    refine ite_ok (fun _ => nx_end (case_1535 h hc hL) hk) (fun t22 => ?_)
    refine ite_ok (fun _ => nx_end (case_1615 h) hk) (fun t23 => ?_)
    refine ite_ok (fun _ => nx_end (case_1628 h hn) hk) (fun t24 => ?_)
    refine ite_ok (fun _ => nx_end (case_1669 h) hk) (fun t25 => ?_)
    refine ite_ok (fun _ => nx_end (case_1712 h hc hL) hk) (fun t26 => ?_)
    refine ite_ok (fun _ => nx_end (case_1768 h hn' hc hL) hk) (fun t27 => ?_)
    refine ite_ok (fun _ => nx_end (case_1836 h hn') hk) (fun t28 => ?_)
    refine ite_ok (fun _ => nx_end (case_1849 h hc hL) hk) (fun t29 => ?_)
    refine ite_ok (fun _ => nx_end (case_1905 h hc hL) hk) (fun t30 => ?_)
    refine ite_ok (fun _ => nx_end (case_1961 h hn' hc hL) hk) (fun t31 => ?_)
    refine ite_ok (fun _ => nx_end (case_2029 h hc hL) hk) (fun t32 => ?_)
    refine ite_ok (fun _ => nx_end (case_2085 h hn) hk) (fun t33 => ?_)
    refine ite_ok (fun _ => nx_end (case_2098 h hc hL) hk) (fun t34 => ?_)
    refine ite_ok (fun _ => nx_end (case_2123 h) hk) (fun t35 => ?_)
    refine ite_ok (fun _ => nx_end (case_2136 h) hk) (fun t36 => ?_)
    refine ite_ok (fun _ => nx_end (case_2149 h) hk) (fun t37 => ?_)
    refine ite_ok (fun _ => nx_end (case_2160 h) hk) (fun t38 => ?_)
    refine ite_ok (fun _ => nx_end (case_2173 h hn' hc hL) hk) (fun t39 => ?_)
    exact absurd (sel_no s0 t0 t1 t2 t3 t4 t5 t6 t7 t8 t9 t10 t11 t12 t13 t14 t15 t16 t17 t18 t19 t20 t21 t22 t23 t24 t25 t26 t27 t28 t29 t30 t31 t32 t33 t34 t35 t36 t37 t38 t39) (fun x => x)
theorem begin_stamp {x : Int32} {v w : HouseV} (h : House_begin x v = some w) : House_phasesStamp w = House_phasesStamp v ∧ House_walksStamp w = House_walksStamp v := by
  unfold House_begin at h
  simp only [nmL_e] at h
  obtain ⟨j1, -, h⟩ := bdE h
  obtain ⟨j2, -, h⟩ := bdE h
  obtain ⟨j3, -, h⟩ := bdE h
  obtain ⟨j4, -, h⟩ := bdE h
  obtain ⟨j5, -, h⟩ := bdE h
  obtain ⟨j6, -, h⟩ := bdE h
  rw [← Option.some.inj h]
  constructor
  · rw [Ho_phasesStamp_longestRuns, Ho_phasesStamp_runs, Ho_phasesStamp_lastSeen, Ho_phasesStamp_sightings, Ho_phasesStamp_limits, Ho_phasesStamp_joined, Ho_phasesStamp_openDoors, Ho_phasesStamp_minute, Ho_phasesStamp_guards, Ho_phasesStamp_doors, Ho_phasesStamp_rooms]
  · rw [Ho_walksStamp_longestRuns, Ho_walksStamp_runs, Ho_walksStamp_lastSeen, Ho_walksStamp_sightings, Ho_walksStamp_limits, Ho_walksStamp_joined, Ho_walksStamp_openDoors, Ho_walksStamp_minute, Ho_walksStamp_guards, Ho_walksStamp_doors, Ho_walksStamp_rooms]
/-- the two begin alike -/
theorem inv_0 : ∃ (hv : HouseV) (r : Nat → Int32), House_begin 1 House0 = some hv ∧ Mod_clear (fun _ => 0) = some r ∧ Inv 0 GW0 hv Hist0 (fun _ => House0) House0 Sight0 Best0 Toks0 (Model0 r) := by
  obtain ⟨hv, e1, e2, e3⟩ := begin_ok (a := 1) (by omega) (by omega) House0
  obtain ⟨r, r1, r2⟩ := clear_m (fun _ => 0)
  have e1' : House_begin 1 House0 = some hv := e1
  obtain ⟨s1, s2⟩ := begin_stamp e1'
  refine ⟨hv, r, e1', r1, fun _ => hv, fun _ => hv, 0, 0, 0, rfl, Nat.le_refl _, ⟨e2, 0, 0, Nat.le_refl _, Nat.le_refl _, s1, s2, sw_rfl, WE.refl hv⟩, e3 r r2, ⟨0, 0, rfl, by omega, rfl, by omega, rfl, fun i hi => absurd hi (by omega), rfl, fun e => absurd (show false = true from e) (by decide)⟩, ⟨rfl, rfl, by omega, fun i hi => absurd hi (by omega)⟩, rfl, by omega, rfl, rfl, fun i hi => absurd hi (by omega), Or.inl rfl, Or.inl rfl⟩
end LAWALL
