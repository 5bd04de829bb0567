section QVAL
variable {K : KT} {T : TT} {t : ToksV} {M : ModelV} {l f e k : Nat} {v : HouseV} {sv : SightV}
def hU (v : HouseV) (r : Nat) : Int := (House_runs v r).toInt
def hX (v : HouseV) (r : Nat) : Int := (House_longestRuns v r).toInt
/-- the properties of a room -/
def pv (v : HouseV) (p r : Nat) : Int := if p = 0 then (r : Int) else if p = 1 then ((cnt (atR v r) (hD v) : Nat) : Int) else if p = 2 then (hL v r : Int) else if p = 3 then max 0 (gapC (Sg v r) (cyc v)) else if p = 4 then (if gapC (Sg v r) (cyc v) = -1 then 1 else 0) else if p = 5 then (if late v r = true then 1 else 0) else if p = 6 then cntC (Sg v r) (cyc v) else if p = 7 then ((cnt (gwalk v r) (hG v) : Nat) : Int) else if p = 8 then hS v r else if p = 9 then hU v r else hX v r
/-- a laid model of the house -/
def PVM (v : HouseV) (N : ModelV) : Prop := RelM (Model_now N) v ∧ ∀ r, r < hR v → Model_gap N r = I (gapC (Sg v r) (cyc v)) ∧ Model_seenCount N r = I (cntC (Sg v r) (cyc v))
theorem pvm_set (N : ModelV) (x : Nat → Int64) (h : PVM v N) : PVM v (Model_set_stack N x) := ⟨by rw [Mo_now_stack]; exact h.1, fun r hr => by rw [Mo_gap_stack, Mo_seenCount_stack]; exact h.2 r hr⟩
theorem hU_e (hs : WFs v) {r : Nat} (hr : r < 12) (hn : WFn v) : House_runs v r = I (hU v r) ∧ 0 ≤ hU v r ∧ hU v r ≤ 99999 := by
  have hm : hM v ≤ 99999 := hn.2.2.2.2.2.2.2.2.1
  obtain ⟨a, b, c, d, -, -, h1, h2, -⟩ := hs r hr
  unfold hU
  rw [h1, I_int (by omega) (by omega)]
  exact ⟨rfl, by omega, by omega⟩
theorem hX_e (hs : WFs v) {r : Nat} (hr : r < 12) (hn : WFn v) : House_longestRuns v r = I (hX v r) ∧ 0 ≤ hX v r ∧ hX v r ≤ 99999 := by
  have hm : hM v ≤ 99999 := hn.2.2.2.2.2.2.2.2.1
  obtain ⟨a, b, c, d, -, -, -, -, h1, h2, -⟩ := hs r hr
  unfold hX
  rw [h1, I_int (by omega) (by omega)]
  exact ⟨rfl, by omega, by omega⟩
theorem pv_b (hv : HOK v) {p r : Nat} (hr : r < hR v) : 0 ≤ pv v p r ∧ pv v p r ≤ 2147483647 := by
  obtain ⟨hn, hd, hj, hl, hw, hs⟩ := hv
  have hR12 : hR v ≤ 12 := hn.2.2.1
  have hD20 : hD v ≤ 20 := hn.2.2.2.2.1
  have hG4 : hG v ≤ 4 := hn.2.2.2.2.2.2.1
  have hm : hM v ≤ 99999 := hn.2.2.2.2.2.2.2.2.1
  have c1 := cnt_le (atR v r) (hD v)
  have c2 := cnt_le (gwalk v r) (hG v)
  have c3 := (hl r (by omega)).2
  have c4 := gapC_b (Sg v r) (cyc_pos hw)
  have c5 : 0 ≤ cntC (Sg v r) (cyc v) ∧ cntC (Sg v r) (cyc v) ≤ (cyc v : Int) := by
    unfold cntC
    rcases cst_ok (Sg v r) (cyc v) with h | h
    · rw [h.2.2.2.2]; omega
    · have := h.2.2.2.2; omega
  have c6 := cyc_le hw
  have c7 := hS_e hn hs (show r < 12 by omega)
  have c8 := hU_e hs (show r < 12 by omega) hn
  have c9 := hX_e hs (show r < 12 by omega) hn
  unfold pv
  repeat' split
  all_goals omega

theorem prop_m (hv : HOK v) {N : ModelV} (h : PVM v N) {p r : Nat} (hp : p < 11) (hr : r < hR v) : Mod_property (I (r : Int)) (I (p : Int)) N = some (I (pv v p r)) := by
  obtain ⟨hn, hd, hj, hl, hw, hs⟩ := hv
  have hR12 : hR v ≤ 12 := hn.2.2.1
  have hg := h.2 r hr
  have hrel := h.1
  have c4 := gapC_b (Sg v r) (cyc_pos hw)
  have c6 := cyc_le hw
  have of : ∀ q, q < 5 → Mod_ofRoom (I (r : Int)) (I ((q : Nat) : Int)) N = some (Model_now N (4 + 5 * r + q)) := fun q hq => ofRoom_m (by omega) hq
  have a5 := hrel.2.2.2.2.1 r (by omega)
  have hlate : Mod_isLate (I (r : Int)) N = some (late v r) := by
    unfold Mod_isLate late
    rw [gd_I (by omega) (by omega) (by omega), I_clamp r (by omega), hg.1, I_zero, of 0 (by omega), bind_s, Nat.add_zero, a5.1, (hl r (by omega)).1, Im1]
    have c3 := (hl r (by omega)).2
    by_cases c : gapC (Sg v r) (cyc v) = -1
    · rw [if_pos (by rw [c]), decide_eq_true c, Bool.true_or]
    · rw [if_neg (I_ne c (by omega) (by omega) (by omega) (by omega)), decide_eq_false c, Bool.false_or]
      by_cases d : gapC (Sg v r) (cyc v) ≤ (hL v r : Int)
      · rw [if_pos (I_le_t d (by omega) (by omega)), decide_eq_false (by omega)]
      · rw [if_neg (I_le_f (by omega) (by omega) (by omega)), decide_eq_true (by omega)]
  unfold Mod_property
  obtain rfl | rfl | rfl | rfl | rfl | rfl | rfl | rfl | rfl | rfl | rfl : p = 0 ∨ p = 1 ∨ p = 2 ∨ p = 3 ∨ p = 4 ∨ p = 5 ∨ p = 6 ∨ p = 7 ∨ p = 8 ∨ p = 9 ∨ p = 10 := by omega
  · rw [if_neg (by decide), if_pos (by decide)]
    rfl
  · rw [if_neg (by decide), if_neg (by decide), if_pos (by decide)]
    exact by rw [openOf_m hrel hn hd (by omega), bind_s]; rfl
  · rw [if_neg (by decide), if_neg (by decide), if_neg (by decide), if_pos (by decide)]
    exact by rw [I_zero, of 0 (by omega), bind_s, Nat.add_zero, a5.1, (hl r (by omega)).1]; rfl
  · rw [if_neg (by decide), if_neg (by decide), if_neg (by decide), if_neg (by decide), if_pos (by decide)]
    exact by rw [gd_I (by omega) (by omega) (by omega), I_clamp r (by omega), hg.1, I0, imax_I (by omega) (by omega) (by omega) (by omega)]; rfl
  · rw [if_neg (by decide), if_neg (by decide), if_neg (by decide), if_neg (by decide), if_neg (by decide), if_pos (by decide)]
    exact by
      rw [gd_I (by omega) (by omega) (by omega), I_clamp r (by omega), hg.1, Im1]
      show _ = some (I (if gapC (Sg v r) (cyc v) = -1 then 1 else 0))
      by_cases c : gapC (Sg v r) (cyc v) = -1
      · rw [if_pos (by rw [c]), if_pos c]; rfl
      · rw [if_neg (I_ne c (by omega) (by omega) (by omega) (by omega)), if_neg c]; rfl
  · rw [if_neg (by decide), if_neg (by decide), if_neg (by decide), if_neg (by decide), if_neg (by decide), if_neg (by decide), if_pos (by decide)]
    exact by
      rw [hlate, bind_s]
      show _ = some (I (if late v r = true then 1 else 0))
      cases late v r <;> rfl
  · rw [if_neg (by decide), if_neg (by decide), if_neg (by decide), if_neg (by decide), if_neg (by decide), if_neg (by decide), if_neg (by decide), if_pos (by decide)]
    exact by rw [gd_I (by omega) (by omega) (by omega), I_clamp r (by omega), hg.2]; rfl
  · rw [if_neg (by decide), if_neg (by decide), if_neg (by decide), if_neg (by decide), if_neg (by decide), if_neg (by decide), if_neg (by decide), if_neg (by decide), if_pos (by decide)]
    exact by rw [walksIn_m hrel hn hw (by omega), bind_s]; rfl
  · rw [if_neg (by decide), if_neg (by decide), if_neg (by decide), if_neg (by decide), if_neg (by decide), if_neg (by decide), if_neg (by decide), if_neg (by decide), if_neg (by decide), if_pos (by decide)]
    exact by rw [show (1 : Int32) = I ((1 : Nat) : Int) from rfl, of 1 (by omega), bind_s, show 4 + 5 * r + 1 = 5 + 5 * r by omega, a5.2.1, (hS_e hn hs (show r < 12 by omega)).1]; rfl
  · rw [if_neg (by decide), if_neg (by decide), if_neg (by decide), if_neg (by decide), if_neg (by decide), if_neg (by decide), if_neg (by decide), if_neg (by decide), if_neg (by decide), if_neg (by decide), if_pos (by decide)]
    exact by rw [show (3 : Int32) = I ((3 : Nat) : Int) from rfl, of 3 (by omega), bind_s, show 4 + 5 * r + 3 = 7 + 5 * r by omega, a5.2.2.2.1, (hU_e hs (show r < 12 by omega) hn).1]; rfl
  · rw [if_pos (by decide)]
    exact by rw [show (4 : Int32) = I ((4 : Nat) : Int) from rfl, of 4 (by omega), bind_s, show 4 + 5 * r + 4 = 8 + 5 * r by omega, a5.2.2.2.2, (hX_e hs (show r < 12 by omega) hn).1]; rfl
theorem prop_ss (h : SS K T t M l f e k) (hv : HOK v) (hso : SOK sv v) (q : QReadV) : (∃ p, p < 11 ∧ (∀ r, r < hR v → QRead_propertyOf (I (r : Int)) q t v sv = some (I (pv v p r))) ∧ Mod_compileValue_30 FU 0 M = Mod_compileValue_58 (I (p : Int)) M) ∨ ((∀ r, r < hR v → QRead_propertyOf (I (r : Int)) q t v sv = some (-1)) ∧ Mod_compileValue_30 FU 0 M = Mod_compileValue_58 (I ((11 : Nat) : Int)) M) := by
  obtain ⟨hn, hd, hj, hl, hw, hs⟩ := hv
  have hR12 : hR v ≤ 12 := hn.2.2.1
  have c6 := cyc_le hw
  obtain ⟨n, hfu⟩ : ∃ n, FU = n + 12 := ⟨FU - 12, rfl⟩
  have hasR : ∀ r, r < hR v → House_hasRoom (I (r : Int)) v = some true := fun r hr => by rw [hasRoom_s hn (by omega) (by omega), decide_eq_true (by omega)]
  have st : ∀ (p : Nat) (b : Bool) (n : Nat), p < 11 → Mod_isWord (32 + p) M = some b → Mod_compileValue_30 (n + 1) (I (p : Int)) M = bif b then Mod_compileValue_58 (I (p : Int)) M else Mod_compileValue_30 n (I ((p + 1 : Nat) : Int)) M := by
    intro p b n hp hb
    rw [Mod_compileValue_30, I11, if_neg (I_le_f (by omega) (by omega) (by omega)), gd_I (by omega) (by omega) (by omega), I_clamp p (by omega), hb, bind_s, nmL_e, I_succ]
  have sl : Mod_compileValue_30 (n + 1) (I ((11 : Nat) : Int)) M = Mod_compileValue_58 (I ((11 : Nat) : Int)) M := by
    rw [Mod_compileValue_30, if_pos (by decide)]
  rw [hfu]
  obtain ⟨b0, w0, m0, -⟩ := isWord_tk (i := 21) (j := 32) (by decide) (by decide) (by decide) h.1 h.2.2.2
  obtain ⟨b1, w1, m1, -⟩ := isWord_tk (i := 22) (j := 33) (by decide) (by decide) (by decide) h.1 h.2.2.2
  obtain ⟨b2, w2, m2, -⟩ := isWord_tk (i := 23) (j := 34) (by decide) (by decide) (by decide) h.1 h.2.2.2
  obtain ⟨b3, w3, m3, -⟩ := isWord_tk (i := 24) (j := 35) (by decide) (by decide) (by decide) h.1 h.2.2.2
  obtain ⟨b4, w4, m4, -⟩ := isWord_tk (i := 25) (j := 36) (by decide) (by decide) (by decide) h.1 h.2.2.2
  obtain ⟨b5, w5, m5, -⟩ := isWord_tk (i := 26) (j := 37) (by decide) (by decide) (by decide) h.1 h.2.2.2
  obtain ⟨b6, w6, m6, -⟩ := isWord_tk (i := 27) (j := 38) (by decide) (by decide) (by decide) h.1 h.2.2.2
  obtain ⟨b7, w7, m7, -⟩ := isWord_tk (i := 28) (j := 39) (by decide) (by decide) (by decide) h.1 h.2.2.2
  obtain ⟨b8, w8, m8, -⟩ := isWord_tk (i := 29) (j := 40) (by decide) (by decide) (by decide) h.1 h.2.2.2
  obtain ⟨b9, w9, m9, -⟩ := isWord_tk (i := 30) (j := 41) (by decide) (by decide) (by decide) h.1 h.2.2.2
  obtain ⟨b10, w10, m10, -⟩ := isWord_tk (i := 31) (j := 42) (by decide) (by decide) (by decide) h.1 h.2.2.2
  have s0 := st 0 b0 (n + 11) (by omega) m0
  have s1 := st 1 b1 (n + 10) (by omega) m1
  have s2 := st 2 b2 (n + 9) (by omega) m2
  have s3 := st 3 b3 (n + 8) (by omega) m3
  have s4 := st 4 b4 (n + 7) (by omega) m4
  have s5 := st 5 b5 (n + 6) (by omega) m5
  have s6 := st 6 b6 (n + 5) (by omega) m6
  have s7 := st 7 b7 (n + 4) (by omega) m7
  have s8 := st 8 b8 (n + 3) (by omega) m8
  have s9 := st 9 b9 (n + 2) (by omega) m9
  have s10 := st 10 b10 (n + 1) (by omega) m10
  cases b0
  case true =>
    left
    refine ⟨0, by omega, fun r hr => ?_, ?_⟩
    · unfold QRead_propertyOf
      rw [hasR r hr, bind_s, bif_t, w0, bind_s, bif_t]
      rfl
    · exact s0
  cases b1
  case true =>
    left
    refine ⟨1, by omega, fun r hr => ?_, ?_⟩
    · unfold QRead_propertyOf
      rw [hasR r hr, bind_s, bif_t, w0, bind_s, bif_f, w1, bind_s, bif_t]
      exact by rw [openOf_s hn hd (by omega), bind_s]; rfl
    · exact s0.trans (s1)
  cases b2
  case true =>
    left
    refine ⟨2, by omega, fun r hr => ?_, ?_⟩
    · unfold QRead_propertyOf
      rw [hasR r hr, bind_s, bif_t, w0, bind_s, bif_f, w1, bind_s, bif_f, w2, bind_s, bif_t]
      exact by rw [gd_I (by omega) (by omega) (by omega), I_clamp r (by omega), (hl r (by omega)).1]; rfl
    · exact s0.trans (s1.trans (s2))
  cases b3
  case true =>
    left
    refine ⟨3, by omega, fun r hr => ?_, ?_⟩
    · unfold QRead_propertyOf
      rw [hasR r hr, bind_s, bif_t, w0, bind_s, bif_f, w1, bind_s, bif_f, w2, bind_s, bif_f, w3, bind_s, bif_t]
      exact by rw [gd_I (by omega) (by omega) (by omega), I_clamp r (by omega), (hso.1 r hr).1, I0, imax_I (by omega) (by omega) (by have := gapC_b (Sg v r) (cyc_pos hw); omega) (by have := gapC_b (Sg v r) (cyc_pos hw); omega)]; rfl
    · exact s0.trans (s1.trans (s2.trans (s3)))
  cases b4
  case true =>
    left
    refine ⟨4, by omega, fun r hr => ?_, ?_⟩
    · unfold QRead_propertyOf
      rw [hasR r hr, bind_s, bif_t, w0, bind_s, bif_f, w1, bind_s, bif_f, w2, bind_s, bif_f, w3, bind_s, bif_f, w4, bind_s, bif_t]
      have c4 := gapC_b (Sg v r) (cyc_pos hw)
      rw [gd_I (by omega) (by omega) (by omega), I_clamp r (by omega), (hso.1 r hr).1, Im1]
      show _ = some (I (if gapC (Sg v r) (cyc v) = -1 then 1 else 0))
      by_cases c : gapC (Sg v r) (cyc v) = -1
      · rw [if_pos (by rw [c]), if_pos c]; rfl
      · rw [if_neg (I_ne c (by omega) (by omega) (by omega) (by omega)), if_neg c]; rfl
    · exact s0.trans (s1.trans (s2.trans (s3.trans (s4))))
  cases b5
  case true =>
    left
    refine ⟨5, by omega, fun r hr => ?_, ?_⟩
    · unfold QRead_propertyOf
      rw [hasR r hr, bind_s, bif_t, w0, bind_s, bif_f, w1, bind_s, bif_f, w2, bind_s, bif_f, w3, bind_s, bif_f, w4, bind_s, bif_f, w5, bind_s, bif_t]
      rw [isLate_s hn hw hl hso hr, bind_s]
      show _ = some (I (if late v r = true then 1 else 0))
      cases late v r <;> rfl
    · exact s0.trans (s1.trans (s2.trans (s3.trans (s4.trans (s5)))))
  cases b6
  case true =>
    left
    refine ⟨6, by omega, fun r hr => ?_, ?_⟩
    · unfold QRead_propertyOf
      rw [hasR r hr, bind_s, bif_t, w0, bind_s, bif_f, w1, bind_s, bif_f, w2, bind_s, bif_f, w3, bind_s, bif_f, w4, bind_s, bif_f, w5, bind_s, bif_f, w6, bind_s, bif_t]
      exact by rw [gd_I (by omega) (by omega) (by omega), I_clamp r (by omega), (hso.1 r hr).2.2]; rfl
    · exact s0.trans (s1.trans (s2.trans (s3.trans (s4.trans (s5.trans (s6))))))
  cases b7
  case true =>
    left
    refine ⟨7, by omega, fun r hr => ?_, ?_⟩
    · unfold QRead_propertyOf
      rw [hasR r hr, bind_s, bif_t, w0, bind_s, bif_f, w1, bind_s, bif_f, w2, bind_s, bif_f, w3, bind_s, bif_f, w4, bind_s, bif_f, w5, bind_s, bif_f, w6, bind_s, bif_f, w7, bind_s, bif_t]
      exact by rw [walking_s hn hw (by omega), bind_s]; rfl
    · exact s0.trans (s1.trans (s2.trans (s3.trans (s4.trans (s5.trans (s6.trans (s7)))))))
  cases b8
  case true =>
    left
    refine ⟨8, by omega, fun r hr => ?_, ?_⟩
    · unfold QRead_propertyOf
      rw [hasR r hr, bind_s, bif_t, w0, bind_s, bif_f, w1, bind_s, bif_f, w2, bind_s, bif_f, w3, bind_s, bif_f, w4, bind_s, bif_f, w5, bind_s, bif_f, w6, bind_s, bif_f, w7, bind_s, bif_f, w8, bind_s, bif_t]
      exact by rw [gd_I (by omega) (by omega) (by omega), I_clamp r (by omega), (hS_e hn hs (show r < 12 by omega)).1]; rfl
    · exact s0.trans (s1.trans (s2.trans (s3.trans (s4.trans (s5.trans (s6.trans (s7.trans (s8))))))))
  cases b9
  case true =>
    left
    refine ⟨9, by omega, fun r hr => ?_, ?_⟩
    · unfold QRead_propertyOf
      rw [hasR r hr, bind_s, bif_t, w0, bind_s, bif_f, w1, bind_s, bif_f, w2, bind_s, bif_f, w3, bind_s, bif_f, w4, bind_s, bif_f, w5, bind_s, bif_f, w6, bind_s, bif_f, w7, bind_s, bif_f, w8, bind_s, bif_f, w9, bind_s, bif_t]
      exact by rw [gd_I (by omega) (by omega) (by omega), I_clamp r (by omega), (hU_e hs (show r < 12 by omega) hn).1]; rfl
    · exact s0.trans (s1.trans (s2.trans (s3.trans (s4.trans (s5.trans (s6.trans (s7.trans (s8.trans (s9)))))))))
  cases b10
  case true =>
    left
    refine ⟨10, by omega, fun r hr => ?_, ?_⟩
    · unfold QRead_propertyOf
      rw [hasR r hr, bind_s, bif_t, w0, bind_s, bif_f, w1, bind_s, bif_f, w2, bind_s, bif_f, w3, bind_s, bif_f, w4, bind_s, bif_f, w5, bind_s, bif_f, w6, bind_s, bif_f, w7, bind_s, bif_f, w8, bind_s, bif_f, w9, bind_s, bif_f, w10, bind_s, bif_t]
      exact by rw [gd_I (by omega) (by omega) (by omega), I_clamp r (by omega), (hX_e hs (show r < 12 by omega) hn).1]; rfl
    · exact s0.trans (s1.trans (s2.trans (s3.trans (s4.trans (s5.trans (s6.trans (s7.trans (s8.trans (s9.trans (s10))))))))))
  right
  refine ⟨fun r hr => ?_, ?_⟩
  · unfold QRead_propertyOf
    rw [hasR r hr, bind_s, bif_t, w0, bind_s, bif_f, w1, bind_s, bif_f, w2, bind_s, bif_f, w3, bind_s, bif_f, w4, bind_s, bif_f, w5, bind_s, bif_f, w6, bind_s, bif_f, w7, bind_s, bif_f, w8, bind_s, bif_f, w9, bind_s, bif_f, w10, bind_s, bif_f]
  · exact s0.trans (s1.trans (s2.trans (s3.trans (s4.trans (s5.trans (s6.trans (s7.trans (s8.trans (s9.trans (s10.trans (sl)))))))))))
end QVAL
