section CASES16
variable {n c L : Nat} {k23 : K23} {xs : Nat → Int32} {v0 : GWV} {v1 v2 v5 v9 : HouseV} {v3 : HistV} {v4 : Nat → HouseV} {v6 v7 v10 : SightV} {v8 : BestV} {v11 : IntrV} {v12 : ToksV} {v14 : QReadV} {v15 v16 : Nat → Int32} {v17 M' : ModelV} {v19 : Nat → Int64}
/-- the rate of what is seen in a cycle -/
theorem case_1628 (h : Inv n v0 v1 v3 v4 v5 v6 v8 v12 v17) (hnn : n ≤ 100000) : NX n c k23 (Law_1628 L xs k23 (I (c : Int)) v0 v1 v2 v3 v4 v5 v6 v7 v8 v9 v10 v11 v12 v14 v15 v16 v17 v19) := by
  have h0 := h
  obtain ⟨Φ, Ψ, ls, b, len, a1, a2, a3, a4, a5, a6, a7, a8, a9, a10, a11, a12, a13⟩ := h
  have hv := a3.1
  have hms : MS v6 v1 := a12.ms a3 (by omega)
  obtain ⟨hn, hd, hj, hl, hw, hs⟩ := id hv
  have hR1 : 1 ≤ hR v1 := hn.2.1
  have hR12 : hR v1 ≤ 12 := hn.2.2.1
  have hr0 : RelM (Model_now (Model_set_thrown v17 0)) v1 := by rw [Mo_now_thrown]; exact a4
  have hc1 := cyc_pos hw
  have hc2 := cyc_le hw
  have hmul : I (hR v1 : Int) * I (cyc v1 : Int) = I ((hR v1 * cyc v1 : Nat) : Int) := by rw [I_mul]; rfl
  have hp1 : 1 ≤ hR v1 * cyc v1 := Nat.mul_pos hR1 hc1
  have hp2 : hR v1 * cyc v1 ≤ 12 * 2520 := Nat.mul_le_mul hR12 hc2
  obtain ⟨ph, cy, f, l, s, gg, bb, e, h1, h2, h3⟩ := layNow_m hr0 hn hw
  have hrB : RelM (Model_now (Model_set_cycleNow (Model_set_phases (Model_set_thrown v17 0) ph) cy)) v1 := by rw [Mo_now_cycleNow, Mo_now_phases]; exact hr0
  have hrL := rel_ML (f := f) (l := l) (s := s) (g := gg) (b := bb) hrB
  have kA : kpA (ML (Model_set_cycleNow (Model_set_phases (Model_set_thrown v17 0) ph) cy) f l s gg bb) = kpA v17 := (congrArg (fun q => q.2) (show kp _ = kp (Model_set_thrown v17 0) by rw [kp_ML, kp_cycleNow, kp_phases])).trans (kpA_thr _ _)
  have cN : Model_cycleNow (ML (Model_set_cycleNow (Model_set_phases (Model_set_thrown v17 0) ph) cy) f l s gg bb) = I ((cyc v1 : Nat) : Int) := by rw [MLo_cycleNow, Mo_cycleNow_cycleNow]; exact h1
  have eS := seenInCycle_m (l := l) (f := f) hrB hn h3
  obtain ⟨s1, m1, m2, m3⟩ := measured_s hn hw hms v0
  have m4 := countSeen_s hn m2
  revert hrL kA cN eS e m4
  generalize ML (Model_set_cycleNow (Model_set_phases (Model_set_thrown v17 0) ph) cy) f l s gg bb = N
  generalize I (sumTo (fun r => cntC (Sg v1 r) (cyc v1)) (hR v1)) = A
  intro e hrL kA cN eS m4
  have hn64 := ddiv_n A hp1 (by omega)
  have k1 : GW_coverage v0 v1 v6 = some (FP.ddiv (FP.i2d A) (FP.i2d (I ((hR v1 * cyc v1 : Nat) : Int))), s1) := by
    unfold GW_coverage
    rw [cycleLength_s hn hw, bind_s, nmL_e, hn.1, hmul, if_pos (show (0 : Int32) < I ((hR v1 * cyc v1 : Nat) : Int) from I_lt_t (a := 0) (by omega) (by omega) (by omega)), m1, bind_s, m4, bind_s, gd_t hn64]
  have k2 : Mod_coverage v17 = some (FP.ddiv (FP.i2d A) (FP.i2d (I ((hR v1 * cyc v1 : Nat) : Int))), N) := by
    unfold Mod_coverage
    rw [nmL_e, e, bind_s, eS, bind_s, rooms_m hrL hn, bind_s, cN, hmul, gd_t hn64]
  unfold Law_1628
  rw [k1, bind_s, k2, bind_s]
  dsimp only
  generalize FP.ddiv (FP.i2d A) (FP.i2d (I ((hR v1 * cyc v1 : Nat) : Int))) = D
  have hI : Inv (n + 1) v0 v1 v3 v4 v5 s1 v8 v12 N := (h0.sight (Or.inr ⟨m2, m3⟩)).keep kA
  by_cases cc : Op.cmpValue (FP.dcmp D D) .l = 0
  · rw [if_pos cc, nmL_e]
    exact ⟨v0, v1, v2, v3, v4, v5, s1, v7, v8, v9, v10, v11, v12, v14, v15, v16, N, v19, rfl, hI⟩
  · rw [if_neg cc, if_neg cc, if_neg cc, nmL_e]
    exact ⟨v0, v1, v2, v3, v4, v5, s1, v7, v8, v9, v10, v11, v12, v14, v15, v16, N, v19, rfl, hI⟩
/-- how many are seen in a minute so far -/
theorem case_1669 (h : Inv n v0 v1 v3 v4 v5 v6 v8 v12 v17) : NX n c k23 (Law_1669 L xs k23 (I (c : Int)) v0 v1 v2 v3 v4 v5 v6 v7 v8 v9 v10 v11 v12 v14 v15 v16 v17 v19) := by
  have h0 := h
  obtain ⟨Φ, Ψ, ls, b, len, a1, a2, a3, a4, -⟩ := h
  obtain ⟨hn, hd, hj, hl, hw, hs⟩ := a3.1
  have hM9 : hM v1 ≤ 99999 := hn.2.2.2.2.2.2.2.2.1
  have hMi : House_minute v1 = I (hM v1 : Int) := hn.2.2.2.2.2.2.2.1
  have hr0 : RelM (Model_now (Model_set_thrown v17 0)) v1 := by rw [Mo_now_thrown]; exact a4
  have e3 : Model_now (Model_set_thrown v17 0) (Int32.toNatClampNeg 3) = I (hM v1 : Int) := hr0.2.2.2.1.trans hMi
  have key : ∃ D, n32 D = true ∧ GW_seenRate v0 v1 = some D ∧ Mod_seenRate v17 = some (D, Model_set_thrown v17 0) := by
    unfold GW_seenRate Mod_seenRate
    rw [nmL_e, gd_t (show inB (3 : Int32) 172 = true from rfl), e3, hMi]
    by_cases c0 : hM v1 = 0
    · rw [if_neg (show ¬ (0 : Int32) < I (hM v1 : Int) from I_lt_f (a := 0) (by omega) (by omega) (by omega)), if_pos (show I (hM v1 : Int) = (0 : Int32) by rw [c0]; rfl)]
      exact ⟨_, by decide, rfl, rfl⟩
    · have hd := fdiv_n (I (sumS v1)) (b := hM v1) (by omega) (by omega)
      rw [if_pos (show (0 : Int32) < I (hM v1 : Int) from I_lt_t (a := 0) (by omega) (by omega) (by omega)), if_neg (show ¬ I (hM v1 : Int) = (0 : Int32) from I_ne (b := 0) (by omega) (by omega) (by omega) (by omega) (by omega)), countSightings_s hn hs, bind_s, sightings_m hr0 hn hs, bind_s, gd_t hd, gd_t hd]
      exact ⟨_, hd, rfl, rfl⟩
  obtain ⟨D, d1, k1, k2⟩ := key
  have d2 := f2d_n d1
  unfold Law_1669
  rw [k1, bind_s, gd_t d2, k2, bind_s]
  dsimp only
  rw [gd_t d2]
  generalize FP.f2d D = E
  by_cases cc : Op.cmpValue (FP.dcmp E E) .l = 0
  · rw [if_pos cc, nmL_e]
    exact ⟨v0, v1, v2, v3, v4, v5, v6, v7, v8, v9, v10, v11, v12, v14, v15, v16, _, v19, rfl, h0.keep (kpA_thr _ _)⟩
  · rw [if_neg cc, if_neg cc, if_neg cc, nmL_e]
    exact ⟨v0, v1, v2, v3, v4, v5, v6, v7, v8, v9, v10, v11, v12, v14, v15, v16, _, v19, rfl, h0.keep (kpA_thr _ _)⟩
end CASES16
