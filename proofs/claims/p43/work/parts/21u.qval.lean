section QVAL
variable {K : KT} {T : TT} {t : ToksV} {l f e k : Nat} {v : HouseV} {sv : SightV}
def hU (v : HouseV) (r : Nat) : Int := (House_runs v r).toInt
def hX (v : HouseV) (r : Nat) : Int := (House_longestRuns v r).toInt
/-- the properties of a room -/
def pv (v : HouseV) (p r : Nat) : Int := if p = 0 then (r : Int) else if p = 1 then ((cnt (atR v r) (hD v) : Nat) : Int) else if p = 2 then (hL v r : Int) else if p = 3 then max 0 (gapC (Sg v r) (cyc v)) else if p = 4 then (if gapC (Sg v r) (cyc v) = -1 then 1 else 0) else if p = 5 then (if late v r = true then 1 else 0) else if p = 6 then cntC (Sg v r) (cyc v) else if p = 7 then ((cnt (gwalk v r) (hG v) : Nat) : Int) else if p = 8 then hS v r else if p = 9 then hU v r else hX v r
theorem hU_e (hs : WFs v) {r : Nat} (hr : r < 12) (hn : WFn v) : House_runs v r = I (hU v r) ∧ 0 ≤ hU v r ∧ hU v r ≤ 99999 := by
  have hm : hM v ≤ 99999 := hn.2.2.2.2.2.2.2.2.1
  obtain ⟨a, b, c, d, -, -, h1, h2, -⟩ := hs r hr
  unfold hU
  rw [h1, I_int (by omega) (by omega)]
  exact ⟨rfl, by omega, by omega⟩
theorem hX_e (hs : WFs v) {r : Nat} (hr : r < 12) (hn : WFn v) : House_longestRuns v r = I (hX v r) ∧ 0 ≤ hX v r ∧ hX v r ≤ 99999 := by
  have hm : hM v ≤ 99999 := hn.2.2.2.2.2.2.2.2.1
  obtain ⟨a, b, c, d, -, -, -, -, h1, h2, -⟩ := hs r hr
  unfold hX
  rw [h1, I_int (by omega) (by omega)]
  exact ⟨rfl, by omega, by omega⟩
theorem pv_b (hv : HOK v) {p r : Nat} (hr : r < hR v) : 0 ≤ pv v p r ∧ pv v p r ≤ 2147483647 := by
  obtain ⟨hn, hd, hj, hl, hw, hs⟩ := hv
  have hR12 : hR v ≤ 12 := hn.2.2.1
  have hD20 : hD v ≤ 20 := hn.2.2.2.2.1
  have hG4 : hG v ≤ 4 := hn.2.2.2.2.2.2.1
  have hm : hM v ≤ 99999 := hn.2.2.2.2.2.2.2.2.1
  have c1 := cnt_le (atR v r) (hD v)
  have c2 := cnt_le (gwalk v r) (hG v)
  have c3 := (hl r (by omega)).2
  have c4 := gapC_b (Sg v r) (cyc_pos hw)
  have c5 : 0 ≤ cntC (Sg v r) (cyc v) ∧ cntC (Sg v r) (cyc v) ≤ (cyc v : Int) := by
    unfold cntC
    rcases cst_ok (Sg v r) (cyc v) with h | h
    · rw [h.2.2.2.2]; omega
    · have := h.2.2.2.2; omega
  have c6 := cyc_le hw
  have c7 := hS_e hn hs (show r < 12 by omega)
  have c8 := hU_e hs (show r < 12 by omega) hn
  have c9 := hX_e hs (show r < 12 by omega) hn
  unfold pv
  repeat' split
  all_goals omega

end QVAL

