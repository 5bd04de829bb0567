section BESTX
variable {v w : HouseV} {g : GWV} {Φ Ψ : Nat → HouseV} {ls : Nat} {b : BestV} {β : Nat → Nat}
theorem lcmp_self (x : Int64) : lg_cmp x x = 0 := by
  unfold lg_cmp
  rw [if_neg (show ¬ x > x from fun h => by
    have := Int64.lt_iff_toInt_lt.mp h
    omega), if_pos rfl]
theorem bok_fix (hb : BOK b v) (h : BestIn (EV v) (rM v) (hG v) (prd (rM v) (hG v)) β) : BS b v β := by
  obtain ⟨γ, ⟨k1, k2, k3⟩, k4⟩ := hb
  have e := best_uni k4 h k4.1 fun _ q => q
  have eE : EV v γ = EV v β := EV_congr γ β e
  exact ⟨by rw [k1, eE], by rw [k2, eE], fun g hg => by rw [k3 g hg, e g hg]⟩
theorem best_f (hj : JX Φ Ψ ls v) (hl : ls ≤ 100000) (hb : BI2 Ψ ls b) (h : BestIn (EV v) (rM v) (hG v) (prd (rM v) (hG v)) β) (bt : HouseV) (bs : SightV) : ∃ b' bt' bs', GW_best g v b bt bs = some (b', bt', bs') ∧ BS b' v β ∧ BI2 Ψ ls b' := by
  obtain ⟨b', bt', bs', k1, k2, k3⟩ := best_s (g := g) (t := bt) (s := bs) hb hj.1 hl ⟨β, h⟩
  exact ⟨b', bt', bs', k1, bok_fix k2 h, k3⟩
theorem bestWorst_m (hj : JX Φ Ψ ls v) (hl : ls ≤ 100000) (hb : BI2 Ψ ls b) (h : BestIn (EV v) (rM v) (hG v) (prd (rM v) (hG v)) β) (bt : HouseV) (bs : SightV) : ∃ b' bt' bs', GW_bestWorst g v b bt bs = some (I (EV v β).1, b', bt', bs') ∧ BI2 Ψ ls b' := by
  obtain ⟨b', bt', bs', k1, k2, k3⟩ := best_f (g := g) hj hl hb h bt bs
  refine ⟨b', bt', bs', ?_, k3⟩
  unfold GW_bestWorst
  rw [k1, bind_s]
  dsimp only
  rw [k2.1]
theorem bestCrossings_m (hj : JX Φ Ψ ls v) (hl : ls ≤ 100000) (hb : BI2 Ψ ls b) (h : BestIn (EV v) (rM v) (hG v) (prd (rM v) (hG v)) β) (bt : HouseV) (bs : SightV) : ∃ b' bt' bs', GW_bestCrossings g v b bt bs = some (I (EV v β).2, b', bt', bs') ∧ BI2 Ψ ls b' := by
  obtain ⟨b', bt', bs', k1, k2, k3⟩ := best_f (g := g) hj hl hb h bt bs
  refine ⟨b', bt', bs', ?_, k3⟩
  unfold GW_bestCrossings
  rw [k1, bind_s]
  dsimp only
  rw [k2.2.1]
theorem bestPhase_m (hj : JX Φ Ψ ls v) (hl : ls ≤ 100000) (hb : BI2 Ψ ls b) (h : BestIn (EV v) (rM v) (hG v) (prd (rM v) (hG v)) β) (bt : HouseV) (bs : SightV) {q : Nat} (hq : q < hG v) : ∃ b' bt' bs', GW_bestPhase (I (q : Int)) g v b bt bs = some (I (β q : Int), b', bt', bs') ∧ BI2 Ψ ls b' := by
  have hG4 := hj.2.1.1.2.2.2.2.2.2.1
  obtain ⟨b', bt', bs', k1, k2, k3⟩ := best_f (g := g) hj hl hb h bt bs
  refine ⟨b', bt', bs', ?_, k3⟩
  unfold GW_bestPhase
  rw [needGuard_o hj.2.1.1 hq, bind_s, k1, bind_s]
  dsimp only
  rw [gd_I (by omega) (by omega) (by omega), I_clamp q (by omega), k2.2.2 q hq]
/-- another phase for one guard -/
def oneP (v : HouseV) (q p : Nat) : Nat → Nat := fun j => if j = q then p else hF v j
theorem oneP_box (hw : WFG v) {q p : Nat} (hp : p < hP v q) : box (hP v) (oneP v q p) (hG v) := by
  intro j hj
  unfold oneP
  by_cases c : j = q
  · rw [if_pos c, c]; exact hp
  · rw [if_neg c]; exact (hw j hj).2.2.2
theorem worstWith_m (hv : HOK v) {q p : Nat} (hq : q < hG v) (hp : p < hP v q) (t : HouseV) (s : SightV) : ∃ t' s', GW_worstWith (I (q : Int)) (I (p : Int)) g v t s = some (I (EV v (oneP v q p)).1, t', s') := by
  obtain ⟨hn, hd, hj, hl, hw, hs⟩ := id hv
  have hG4 := hn.2.2.2.2.2.2.1
  have hper := hw.per q hq
  obtain ⟨t', ht, hc⟩ := copyFrom_s t v
  have hn' := hc_n hc hn
  have hw' := hc_wfG hc hn hw
  have eG := hc_G hc
  have hf : ∀ j, j < hG t' → upd (House_phases t') q (I (p : Int)) j = I (oneP v q p j : Int) := fun j hjj => by
    rw [eG] at hjj
    unfold oneP
    by_cases c : j = q
    · rw [if_pos c, c, upd_i]
    · rw [if_neg c, upd_n c, (hc.2.2.2.2.2.2.2.2.2.1 j (by omega)).2.1, (hw j hjj).2.2.1]
  have hb : box (hP t') (oneP v q p) (hG t') := fun j hjj => by
    rw [eG] at hjj
    rw [hc_P hc (by omega)]
    exact oneP_box hw hp j hjj
  obtain ⟨s1, m1, m2, m3⟩ := measure_s (sp_n (upd (House_phases t') q (I (p : Int))) hn') (WFG_h hw' hf hb) s
  refine ⟨House_set_phases t' (upd (House_phases t') q (I (p : Int))), s1, ?_⟩
  unfold GW_worstWith
  rw [needGuard_o hn hq, bind_s, gd_I (by omega) (by omega) (by omega), I_clamp q (by omega), (hw q hq).1.1, I1, I_sub, show (0 : Int32) = I 0 from rfl, needRange_o (by omega) (by omega) (by omega) (by omega), bind_s, ht, bind_s, nmL_e, m1, bind_s, m2.2, sw_worst (HS_h hf)]
  rw [← hc_EV hc hn hw]
  rfl
/-- no phases leave a smaller worst gap than the best ones -/
theorem best_min (hw : WFG v) (h : BestIn (EV v) (rM v) (hG v) (prd (rM v) (hG v)) β) {ψ : Nat → Nat} (hψ : box (hP v) ψ (hG v)) : (EV v β).1 ≤ (EV v ψ).1 := by
  have hE := EV_shift hw (hP v 0 - ψ 0) hψ
  have hb : box (rM v) (fun g => (ψ g + (hP v 0 - ψ 0)) % hP v g) (hG v) := by
    intro q hq
    show (ψ q + (hP v 0 - ψ 0)) % hP v q < rM v q
    unfold rM
    by_cases c : q = 0
    · subst c
      have := hψ 0 hq
      rw [if_pos rfl, show ψ 0 + (hP v 0 - ψ 0) = hP v 0 by omega, Nat.mod_self]
      omega
    · rw [if_neg c]
      exact Nat.mod_lt _ (hw.per q hq).1
  rcases h.2.2 _ hb (val_lt hb) with hl | ⟨hl, -⟩
  · rw [hE] at hl
    rcases hl with hl | ⟨hl, -⟩ <;> omega
  · rw [hl, hE]
    exact Int.le_refl _
section
variable {y : HistV} {e : Nat → HouseV} {c : Nat} {U : Nat → HouseV}
theorem undo_q (hh : HQ y e (c + 1) U) (v : HouseV) : ∃ w y', GW_undo g v y e = some (I (c : Int), w, y') ∧ HC w (U 0) ∧ HQ y' e c (fun i => U (i + 1)) ∧ Hist_saved y' = Hist_saved y := by
  rcases takeBack_q hh v with ⟨h, -⟩ | ⟨m, y', w, h1, h2, h3, h4, h5, h6⟩
  · omega
  · obtain rfl : m = c := by omega
    refine ⟨w, y', ?_, h3, h4, h6⟩
    unfold GW_undo
    rw [h2, bind_s]
    dsimp only
    rw [bif_t, h5]
theorem undo_q0 (hh : HQ y e 0 U) (v : HouseV) : GW_undo g v y e = some (-1, v, y) := by
  rcases takeBack_q hh v with ⟨-, h⟩ | ⟨m, y', w, h1, -⟩
  · unfold GW_undo
    rw [h, bind_s]
    rfl
  · omega
end
/-- each phase of a guard leaves no smaller worst gap -/
theorem best61 (hv : HOK v) (h : BestIn (EV v) (rM v) (hG v) (prd (rM v) (hG v)) β) {q0 : Nat} (hq : q0 < hG v) {x1 : Int64} {x4 x5 : Int32} {y : HistV} {e : Nat → HouseV} {s : SightV} {bt : HouseV} {bs : SightV} (k22 : Int32 → Int32 → GWV → HouseV → HouseV → HistV → (Nat → HouseV) → SightV → SightV → BestV → HouseV → SightV → Option (Bool × GWV × HouseV × HouseV × HistV × (Nat → HouseV) × SightV × SightV × BestV × HouseV × SightV)) : ∀ (q k m : Nat) (t : HouseV) (a : SightV), hP v q0 = k + q → q < m → ∃ t' a', L_isBest_61 x1 (I (EV v β).1) x4 x5 (I (q0 : Int)) k22 m (I (k : Int)) g v t y e s a b bt bs = k22 x5 (I ((q0 + 1 : Nat) : Int)) g v t' y e s a' b bt bs := by
  have hw := hv.2.2.2.2.1
  have hG4 := hv.1.2.2.2.2.2.2.1
  have hp := hw.per q0 hq
  have eg : GW_guard (I (q0 : Int)) 0 g v = some (I (hP v q0 : Int)) := by
    rw [k0, guard_m hv hq (k := 0) (by omega)]
    show some (House_periods v q0) = _
    rw [(hw q0 hq).1.1]
  have hEβ := EV_b hw hG4 (boxM_P hw h.1)
  intro q
  induction q with
  | zero =>
    intro k m t a hk hm
    obtain ⟨m, rfl⟩ : ∃ q, m = q + 1 := ⟨m - 1, by omega⟩
    refine ⟨t, a, ?_⟩
    rw [L_isBest_61, eg, bind_s, if_pos (I_le_t (by omega) (by omega) (by omega)), nmL_e, I_succ]
  | succ q ih =>
    intro k m t a hk hm
    obtain ⟨m, rfl⟩ : ∃ q, m = q + 1 := ⟨m - 1, by omega⟩
    have hkp : k < hP v q0 := by omega
    obtain ⟨t1, a1, e1⟩ := worstWith_m (g := g) hv hq hkp t a
    obtain ⟨t2, a2, e2⟩ := ih (k + 1) m t1 a1 (by omega) (by omega)
    have hmin := best_min hw h (oneP_box hw (q := q0) hkp)
    have hEo := EV_b hw hG4 (oneP_box hw (q := q0) hkp)
    refine ⟨t2, a2, ?_⟩
    rw [L_isBest_61, eg, bind_s, if_neg (I_le_f (by omega) (by omega) (by omega)), e1, bind_s]
    dsimp only
    rw [if_pos (I_le_t hmin (by omega) (by omega)), nmL_e, I_succ]
    exact e2
/-- behind adopting: the phases are the best ones, adopting again changes nothing, and it is all undone -/
theorem best150 {Φ2 : Nat → HouseV} {ls0 c : Nat} {U : Nat → HouseV} {v0 : HouseV} (hj0 : JX Φ Ψ ls v0) (hj : JX Φ Ψ ls v) (hls : GW_lastStamp g = I (ls : Int)) (hl : ls ≤ 80000) (h : BestIn (EV v) (rM v) (hG v) (prd (rM v) (hG v)) β) (hFF : ∀ q, q < hG v → hF v q = β q) {y : HistV} {e : Nat → HouseV} (hh : HQ y e (c + 1) U) (hc : c + 2 ≤ 10) (hU : HC (U 0) v0) {s : SightV} (hs : SI2 Φ ls s) {t : HouseV} {a : SightV} : ∀ (q k m : Nat) (b : BestV) (bt : HouseV) (bs : SightV), hG v = k + q → q < m → BI2 Ψ ls b → ∃ g' v' y' e' s' b' bt' bs' Φ', L_isBest_150 (dig v0) m (I (k : Int)) g v t y e s a b bt bs = some (true, g', v', t, y', e', s', a, b', bt', bs') ∧ HC v' v0 ∧ GW_lastStamp g' = I ((ls + 1 : Nat) : Int) ∧ (∀ p, p ≤ ls → Φ' p = Φ p) ∧ JX Φ' Ψ (ls + 1) v' ∧ HQ y' e' c (fun i => U (i + 1)) ∧ SI2 Φ' (ls + 1) s' ∧ BI2 Ψ (ls + 1) b' ∧ Hist_saved y' = Hist_saved y := by
  have hv := hj.2.1
  have hG4 := hv.1.2.2.2.2.2.2.1
  have hw := hv.2.2.2.2.1
  intro q
  induction q with
  | zero =>
    intro k m b bt bs hk hm hb
    obtain ⟨m, rfl⟩ : ∃ q, m = q + 1 := ⟨m - 1, by omega⟩
    obtain ⟨β', g1, w, y1, e1, b1, bt1, bs1, Φ1, r1, r2, r3, r4, r5, r6, r7, r8, r9, r10, r11, r12⟩ := adopt_q hj hls (by omega) hh hb bt bs
    have eβ := best_uni r2 h r2.1 fun _ q => q
    have ecnt : cnt (fun j => decide (¬ hF v j = β' j)) (hG v) = 0 := by
      rw [show (0 : Nat) = cnt (fun _ => false) (hG v) from (by
        induction hG v with
        | zero => rfl
        | succ n ih => rw [cnt, ← ih]; rfl)]
      exact cnt_congr fun j hj => decide_eq_false (fun q : ¬ hF v j = β' j => q (by rw [hFF j hj, eβ j hj]))
    rw [show min (c + 1 + 1) 10 = c + 1 + 1 by omega] at r11
    obtain ⟨w2, y2, u1, u2, u3, u4⟩ := undo_q (g := g1) r11 w
    obtain ⟨w3, y3, u5, u6, u7, u8⟩ := undo_q (g := g1) u3 w2
    have hc3 : HC w3 v0 := u6.trans hU
    have hj3 : JX Φ1 Ψ (ls + 1) w3 := (hj0.mono (by omega) r4 (fun _ _ => rfl)).hc hc3
    have hs1 : SI2 Φ1 (ls + 1) s := hs.mono (by omega) r4
    obtain ⟨s2, a1, a2⟩ := all_s (g := g1) hj3.2.1 (hs1.ms hj3.1 (by omega))
    have hs2 : SI2 Φ1 (ls + 1) s2 := by
      rcases a2 with e | ⟨x1, x2⟩
      · rw [e]; exact hs1
      · exact SI2.of hj3.1 x1 x2
    refine ⟨g1, w3, y3, e1, s2, b1, bt1, bs1, Φ1, ?_, hc3, r3, r4, hj3, u7, hs2, r10, u8.trans (u4.trans r12)⟩
    rw [L_isBest_150, size_2, bind_s]
    dsimp only
    rw [hv.1.2.2.2.2.2.1, if_pos (I_le_t (by omega) (by omega) (by omega)), r1, bind_s]
    dsimp only
    rw [show cnt (fun j => decide (¬ hF v j = β' j)) (hG v) = 0 from ecnt, if_pos Iz, u1, bind_s]
    dsimp only
    rw [if_neg (show ¬ I ((c + 1 : Nat) : Int) < 0 from I_lt_f (b := 0) (by omega) (by omega) (by omega)), u5, bind_s]
    dsimp only
    rw [if_neg (show ¬ I ((c : Nat) : Int) < 0 from I_lt_f (b := 0) (by omega) (by omega) (by omega)), a1, bind_s]
    dsimp only
    rw [dig_hc hj0.2.1 hc3, lcmp_self, if_pos rfl]
  | succ q ih =>
    intro k m b bt bs hk hm hb
    obtain ⟨m, rfl⟩ : ∃ q, m = q + 1 := ⟨m - 1, by omega⟩
    have hkG : k < hG v := by omega
    have hp := hw.per k hkG
    obtain ⟨b1, bt1, bs1, p1, p2⟩ := bestPhase_m (g := g) hj (by omega) hb h bt bs hkG
    obtain ⟨g', v', y', e', s', b', bt', bs', Φ', q1, q2⟩ := ih (k + 1) m b1 bt1 bs1 (by omega) (by omega) p2
    refine ⟨g', v', y', e', s', b', bt', bs', Φ', ?_, q2⟩
    have eg : GW_guard (I (k : Int)) 1 g v = some (I (β k : Int)) := by
      rw [k1, guard_m hv hkG (k := 1) (by omega)]
      show some (House_phases v k) = _
      rw [(hw k hkG).2.2.1, hFF k hkG]
    rw [L_isBest_150, size_2, bind_s]
    dsimp only
    rw [hv.1.2.2.2.2.2.1, if_neg (I_le_f (by omega) (by omega) (by omega)), eg, bind_s, p1, bind_s]
    dsimp only
    rw [if_pos rfl, nmL_e, I_succ]
    exact q1
theorem we_best (hw : WFG v) (he : WE w v) (h : BestIn (EV v) (rM v) (hG v) (prd (rM v) (hG v)) β) : BestIn (EV w) (rM w) (hG w) (prd (rM w) (hG w)) β := by
  obtain ⟨e1, e2, e3⟩ := he
  have er : ∀ g, g < hG v → rM v g = rM w g := fun g hg => by
    unfold rM
    by_cases c : g = 0
    · rw [if_pos c, if_pos c]
    · rw [if_neg c, if_neg c, e2 g hg]
  rw [e1, ← prd_congr er]
  exact bestIn_congr er (fun φ => (e3 φ).symm) h
theorem best22 (hj : JX Φ Ψ ls v) (hls : GW_lastStamp g = I (ls : Int)) (hl : ls ≤ 70000) (h : BestIn (EV v) (rM v) (hG v) (prd (rM v) (hG v)) β) {c : Nat} {U : Nat → HouseV} {y : HistV} {e : Nat → HouseV} (hh : HQ y e c U) (hc : c + 2 ≤ 10) {s : SightV} (hs : SI2 Φ ls s) : ∀ (q k m : Nat) (t : HouseV) (a : SightV) (b : BestV) (bt : HouseV) (bs : SightV), hG v = k + q → q < m → BI2 Ψ ls b → ∃ g' v' t' y' e' s' a' b' bt' bs' Φ', L_isBest_22 (dig v) (I (EV v β).1) (I (EV v β).2) m (I ((cnt (fun j => decide (¬ hF v j = β j)) k : Nat) : Int)) (I (k : Int)) g v t y e s a b bt bs = some (true, g', v', t', y', e', s', a', b', bt', bs') ∧ HC v' v ∧ GW_lastStamp g' = I ((ls + 2 : Nat) : Int) ∧ (∀ p, p ≤ ls → Φ' p = Φ p) ∧ JX Φ' Ψ (ls + 2) v' ∧ HQ y' e' c U ∧ SI2 Φ' (ls + 2) s' ∧ BI2 Ψ (ls + 2) b' ∧ Hist_saved y' = Hist_saved y := by
  have hv := hj.2.1
  have hG4 := hv.1.2.2.2.2.2.2.1
  have hw := hv.2.2.2.2.1
  intro q
  induction q with
  | zero =>
    intro k m t a b bt bs hk hm hb
    obtain ⟨m, rfl⟩ : ∃ q, m = q + 1 := ⟨m - 1, by omega⟩
    obtain ⟨s1, a1, a2⟩ := all_s (g := g) hv (hs.ms hj.1 (by omega))
    have hs1 : SI2 Φ ls s1 := by
      rcases a2 with e | ⟨x1, x2⟩
      · rw [e]; exact hs
      · exact SI2.of hj.1 x1 x2
    obtain ⟨β', g1, w, y1, e1, b1, bt1, bs1, Φ1, r1, r2, r3, r4, r5, r6, r7, r8, r9, r10, r11, r12⟩ := adopt_q hj hls (by omega) hh hb bt bs
    have eβ := best_uni r2 h r2.1 fun _ q => q
    have eE : EV v β' = EV v β := EV_congr β' β eβ
    have ecnt : cnt (fun j => decide (¬ hF v j = β' j)) (hG v) = cnt (fun j => decide (¬ hF v j = β j)) (hG v) := cnt_congr fun j hj => by rw [eβ j hj]
    have hwv := r5.2.1
    have hww := hwv.2.2.2.2.1
    obtain ⟨n1, n2, n3, n4, n5, n6, n7, n8, n9, n10⟩ := fp_n r6
    have hs2 : SI2 Φ1 (ls + 1) s1 := hs1.mono (by omega) r4
    have hms2 : MS s1 w := hs2.ms r5.1 (by omega)
    obtain ⟨s2, b2, b3⟩ := size_5 (g := g1) hwv hms2
    have hs3 : SI2 Φ1 (ls + 1) s2 := by
      rcases b3 with e | ⟨x1, x2⟩
      · rw [e]; exact hs2
      · exact SI2.of r5.1 x1 x2
    have eW : worst w = (EV v β).1 := by rw [sw_worst r8, ← eE]; rfl
    have eX : cross w = (EV v β).2 := by rw [sw_cross r8, ← eE]; rfl
    have hB := we_best hw r9 h
    obtain ⟨b4, bt4, bs4, d1, d2⟩ := bestWorst_m (g := g1) r5 (by omega) r10 hB bt1 bs1
    have eEw : EV w β = EV v β := r9.2.2 β
    rw [show min (c + 1) 10 = c + 1 by omega] at r11
    obtain ⟨g2, v2, y2, e2, s4, b5, bt5, bs5, Φ2, f1, f2, f3, f4, f5, f6, f7, f8, f9⟩ := best150 (Φ2 := Φ1) (ls0 := ls) (t := t) (a := a) (hj.mono (show ls ≤ ls + 1 by omega) r4 (fun _ _ => rfl)) r5 r3 (by omega) hB (fun q hq => by
      rw [n3] at hq
      rw [r7 q hq, eβ q hq]) r11 (by omega) (HC.refl v) hs3 (hG w) 0 FU b4 bt4 bs4 (by omega) (by unfold FU; omega) d2
    refine ⟨g2, v2, t, y2, e2, s4, a, b5, bt5, bs5, Φ2, ?_, f2, f3, fun p hp => (f4 p (by omega)).trans (r4 p hp), f5, ?_, f7, f8, f9.trans r12⟩
    · rw [L_isBest_22, size_2, bind_s]
      dsimp only
      rw [hv.1.2.2.2.2.2.1, if_pos (I_le_t (by omega) (by omega) (by omega)), a1, bind_s]
      dsimp only
      rw [lcmp_self, if_pos rfl, r1, bind_s]
      dsimp only
      rw [ecnt, show k = hG v by omega, if_pos rfl, b2, bind_s]
      dsimp only
      rw [eW, if_pos rfl, size_7 hwv, bind_s]
      dsimp only
      rw [eX, if_pos rfl, d1, bind_s]
      dsimp only
      rw [eEw, if_pos rfl]
      exact f1
    · exact f6
  | succ q ih =>
    intro k m t a b bt bs hk hm hb
    obtain ⟨m, rfl⟩ : ∃ q, m = q + 1 := ⟨m - 1, by omega⟩
    have hkG : k < hG v := by omega
    have hp := hw.per k hkG
    have hβ := boxM_P hw h.1 k hkG
    obtain ⟨b1, bt1, bs1, p1, p2⟩ := bestPhase_m (g := g) hj (by omega) hb h bt bs hkG
    obtain ⟨-, -, g3, g4⟩ := hw k hkG
    have eg : GW_guard (I (k : Int)) 1 g v = some (I (hF v k : Int)) := by
      rw [k1, guard_m hv hkG (k := 1) (by omega)]
      show some (House_phases v k) = _
      rw [g3]
    obtain ⟨t1, a1, e1⟩ := best61 (g := g) (b := b1) hv h hkG (x1 := dig v) (x4 := I (EV v β).2) (x5 := I ((cnt (fun j => decide (¬ hF v j = β j)) (k + 1) : Nat) : Int)) (y := y) (e := e) (s := s) (bt := bt1) (bs := bs1) (fun x5 x6 v0 v1 v2 v3 v4 v5 v6 v7 v8 v9 => L_isBest_22 (dig v) (I (EV v β).1) (I (EV v β).2) m x5 x6 v0 v1 v2 v3 v4 v5 v6 v7 v8 v9) (hP v k) 0 FU t a (by omega) (by unfold FU; omega)
    obtain ⟨g', v', t', y', e', s', a', b', bt', bs', Φ', q1, q2⟩ := ih (k + 1) m t1 a1 b1 bt1 bs1 (by omega) (by omega) p2
    refine ⟨g', v', t', y', e', s', a', b', bt', bs', Φ', ?_, q2⟩
    have e2 := e1.trans q1
    rw [cnt] at e2
    rw [L_isBest_22, size_2, bind_s]
    dsimp only
    rw [hv.1.2.2.2.2.2.1, if_neg (I_le_f (by omega) (by omega) (by omega)), p1, bind_s]
    dsimp only
    rw [eg, bind_s]
    by_cases c : hF v k = β k
    · rw [decide_eq_false (fun q => q c), bif_f, Nat.add_zero] at e2
      rw [if_pos (by rw [c]), nmL_e, I_a0]
      exact e2
    · rw [decide_eq_true c, bif_t] at e2
      rw [if_neg (I_ne (by omega) (by omega) (by omega) (by omega) (by omega)), nmL_e, I_succ]
      exact e2
/-- the best phases are as they ought to be -/
theorem isBest_s (hj : JX Φ Ψ ls v) (hls : GW_lastStamp g = I (ls : Int)) (hl : ls ≤ 70000) {c : Nat} {U : Nat → HouseV} {y : HistV} {e : Nat → HouseV} (hh : HQ y e c U) (hc : c + 2 ≤ 10) {s : SightV} (hs : SI2 Φ ls s) (hb : BI2 Ψ ls b) (t : HouseV) (a : SightV) (bt : HouseV) (bs : SightV) : ∃ g' v' t' y' e' s' a' b' bt' bs' Φ', L_isBest g v t y e s a b bt bs = some (true, g', v', t', y', e', s', a', b', bt', bs') ∧ HC v' v ∧ GW_lastStamp g' = I ((ls + 2 : Nat) : Int) ∧ (∀ p, p ≤ ls → Φ' p = Φ p) ∧ JX Φ' Ψ (ls + 2) v' ∧ HQ y' e' c U ∧ SI2 Φ' (ls + 2) s' ∧ BI2 Ψ (ls + 2) b' ∧ Hist_saved y' = Hist_saved y := by
  have hv := hj.2.1
  obtain ⟨β, h⟩ := bestEx hv.2.2.2.2.1
  obtain ⟨s1, a1, a2⟩ := all_s (g := g) hv (hs.ms hj.1 (by omega))
  have hs1 : SI2 Φ ls s1 := by
    rcases a2 with e | ⟨x1, x2⟩
    · rw [e]; exact hs
    · exact SI2.of hj.1 x1 x2
  obtain ⟨b1, bt1, bs1, p1, p2⟩ := bestWorst_m (g := g) hj (by omega) hb h bt bs
  obtain ⟨b2, bt2, bs2, p3, p4⟩ := bestCrossings_m (g := g) hj (by omega) p2 h bt1 bs1
  obtain ⟨g', v', t', y', e', s', a', b', bt', bs', Φ', q1, q2⟩ := best22 hj hls hl h hh hc hs1 (hG v) 0 FU t a b2 bt2 bs2 (by omega) (by unfold FU; have := hv.1.2.2.2.2.2.2.1; omega) p4
  refine ⟨g', v', t', y', e', s', a', b', bt', bs', Φ', ?_, q2⟩
  unfold L_isBest
  rw [a1, bind_s]
  dsimp only
  rw [p1, bind_s]
  dsimp only
  rw [p3, bind_s]
  dsimp only
  exact q1
end BESTX
