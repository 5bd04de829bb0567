section INV
/-- the same walks -/
def WE (w v : HouseV) : Prop := hG w = hG v ∧ (∀ g, g < hG v → hP w g = hP v g) ∧ ∀ φ, EV w φ = EV v φ
theorem WE.refl (v : HouseV) : WE v v := ⟨rfl, fun _ _ => rfl, fun _ => rfl⟩
theorem WE.trans {u w v : HouseV} (h : WE u w) (k : WE w v) : WE u v := ⟨h.1.trans k.1, fun g hg => (h.2.1 g (by rw [k.1]; exact hg)).trans (k.2.1 g hg), fun φ => (h.2.2 φ).trans (k.2.2 φ)⟩
theorem we_of {w v : HouseV} (hw : WFG v) (h1 : hR w = hR v) (h2 : hG w = hG v) (h3 : ∀ g, g < hG v → hP w g = hP v g) (h4 : ∀ g s, g < hG v → s < hP v g → hW w g s = hW v g s) : WE w v := by
  refine ⟨h2, h3, fun φ => ?_⟩
  have : SW (HS w φ) (HS v φ) := by
    refine ⟨by rw [HS_R, HS_R]; exact h1, by rw [HS_G, HS_G]; exact h2, fun g hg => ?_⟩
    rw [HS_G, h2] at hg
    have hp := hw.per g hg
    refine ⟨by rw [HS_P, HS_P]; exact h3 g hg, fun t => ?_⟩
    rw [HS_pl, HS_pl, h3 g hg]
    exact h4 g _ hg (Nat.mod_lt _ hp.1)
  unfold EV
  rw [sw_worst this, sw_cross this]
theorem we_c {w v : HouseV} (hw : WFG v) (h1 : House_rooms w = House_rooms v) (h2 : House_guards w = House_guards v) (h3 : House_periods w = House_periods v) (h4 : House_walks w = House_walks v) : WE w v := we_of hw (by unfold hR; rw [h1]) (by unfold hG; rw [h2]) (fun g _ => by unfold hP; rw [h3]) (fun g s _ _ => by unfold hW; rw [h4])
theorem bok_we {bv : BestV} {w v : HouseV} (h : WE w v) (hb : BOK bv v) : BOK bv w := by
  obtain ⟨β, ⟨b1, b2, b3⟩, b4⟩ := hb
  obtain ⟨h1, h2, h3⟩ := h
  have hr : ∀ g, g < hG v → rM v g = rM w g := fun g hg => by
    unfold rM
    rw [h2 g hg]
  refine ⟨β, ⟨by rw [h3]; exact b1, by rw [h3]; exact b2, fun g hg => b3 g (by rw [← h1]; exact hg)⟩, ?_⟩
  rw [h1, ← prd_congr hr]
  exact bestIn_congr hr (fun φ => (h3 φ).symm) b4
/-- a house whose stamps are known -/
def JJ (Φ Ψ : Nat → HouseV) (ls : Nat) (v : HouseV) : Prop := HOK v ∧ ∃ p w : Nat, p ≤ ls ∧ w ≤ ls ∧ House_phasesStamp v = I (p : Int) ∧ House_walksStamp v = I (w : Int) ∧ SW v (Φ p) ∧ WE v (Ψ w)
variable {Φ Ψ Φ' Ψ' : Nat → HouseV} {ls ls' : Nat} {v w : HouseV}
theorem JJ.ok (h : JJ Φ Ψ ls v) : HOK v := h.1
theorem JJ.mono (h : JJ Φ Ψ ls v) (hl : ls ≤ ls') (h1 : ∀ p, p ≤ ls → Φ' p = Φ p) (h2 : ∀ p, p ≤ ls → Ψ' p = Ψ p) : JJ Φ' Ψ' ls' v := by
  obtain ⟨a, p, q, b1, b2, b3, b4, b5, b6⟩ := h
  exact ⟨a, p, q, by omega, by omega, b3, b4, by rw [h1 p b1]; exact b5, by rw [h2 q b2]; exact b6⟩
/-- another house with the same stamps, phases and walks -/
theorem JJ.same (h : JJ Φ Ψ ls v) (hw : HOK w) (h1 : House_phasesStamp w = House_phasesStamp v) (h2 : House_walksStamp w = House_walksStamp v) (h3 : SW w v) (h4 : WE w v) : JJ Φ Ψ ls w := by
  obtain ⟨a, p, q, b1, b2, b3, b4, b5, b6⟩ := h
  exact ⟨hw, p, q, b1, b2, h1.trans b3, h2.trans b4, sw_trans h3 b5, h4.trans b6⟩
theorem JJ.hc : ∀ w v, HC w v → JJ Φ Ψ ls v → JJ Φ Ψ ls w := by
  intro w v hc h
  have hv := h.1
  refine h.same (hc_ok hc hv) hc.2.2.2.2.2.2.1 hc.2.2.2.2.2.1 (hc_sw hc hv.1 hv.2.2.2.2.1) ?_
  have hG4 : hG v ≤ 4 := hv.1.2.2.2.2.2.2.1
  exact we_of hv.2.2.2.2.1 (hc_R hc) (hc_G hc) (fun g hg => hc_P hc (by omega)) fun g s hg hs => hc_W hc (by omega) (by have := (hv.2.2.2.2.1.per g hg).2; omega)
/-- the phases are new -/
theorem JJ.phases (h : JJ Φ Ψ ls v) (hw : HOK w) (h1 : House_phasesStamp w = I ((ls + 1 : Nat) : Int)) (h2 : House_walksStamp w = House_walksStamp v) (h4 : WE w v) : ∃ Φ', (∀ p, p ≤ ls → Φ' p = Φ p) ∧ JJ Φ' Ψ (ls + 1) w := by
  obtain ⟨a, p, q, b1, b2, b3, b4, b5, b6⟩ := h
  refine ⟨fun k => if k ≤ ls then Φ k else w, fun p hp => if_pos hp, hw, ls + 1, q, Nat.le_refl _, by omega, h1, h2.trans b4, ?_, h4.trans b6⟩
  have : (if ls + 1 ≤ ls then Φ (ls + 1) else w) = w := if_neg (by omega)
  show SW w (if ls + 1 ≤ ls then Φ (ls + 1) else w)
  rw [this]
  exact sw_rfl
/-- the walks are new -/
theorem JJ.walks (hw : HOK w) (h1 : House_phasesStamp w = I ((ls + 1 : Nat) : Int)) (h2 : House_walksStamp w = I ((ls + 1 : Nat) : Int)) (Φ Ψ : Nat → HouseV) : ∃ Φ' Ψ', (∀ p, p ≤ ls → Φ' p = Φ p) ∧ (∀ p, p ≤ ls → Ψ' p = Ψ p) ∧ JJ Φ' Ψ' (ls + 1) w := by
  refine ⟨fun k => if k ≤ ls then Φ k else w, fun k => if k ≤ ls then Ψ k else w, fun p hp => if_pos hp, fun p hp => if_pos hp, hw, ls + 1, ls + 1, Nat.le_refl _, Nat.le_refl _, h1, h2, ?_, ?_⟩
  · show SW w (if ls + 1 ≤ ls then Φ (ls + 1) else w)
    rw [if_neg (by omega)]
    exact sw_rfl
  · show WE w (if ls + 1 ≤ ls then Ψ (ls + 1) else w)
    rw [if_neg (by omega)]
    exact WE.refl w
/-- what the sightings are of -/
def SI2 (Φ : Nat → HouseV) (ls : Nat) (s : SightV) : Prop := Sight_stamp s = -1 ∨ ∃ p : Nat, p ≤ ls ∧ Sight_stamp s = I (p : Int) ∧ SOK s (Φ p)
def BI2 (Ψ : Nat → HouseV) (ls : Nat) (b : BestV) : Prop := Best_stamp b = -1 ∨ ∃ p : Nat, p ≤ ls ∧ Best_stamp b = I (p : Int) ∧ BOK b (Ψ p)
theorem SI2.mono {s : SightV} (h : SI2 Φ ls s) (hl : ls ≤ ls') (h1 : ∀ p, p ≤ ls → Φ' p = Φ p) : SI2 Φ' ls' s := by
  rcases h with h | ⟨p, h2, h3, h4⟩
  · exact Or.inl h
  · exact Or.inr ⟨p, by omega, h3, by rw [h1 p h2]; exact h4⟩
theorem BI2.mono {s : BestV} (h : BI2 Ψ ls s) (hl : ls ≤ ls') (h1 : ∀ p, p ≤ ls → Ψ' p = Ψ p) : BI2 Ψ' ls' s := by
  rcases h with h | ⟨p, h2, h3, h4⟩
  · exact Or.inl h
  · exact Or.inr ⟨p, by omega, h3, by rw [h1 p h2]; exact h4⟩
theorem SI2.ms {s : SightV} (h : SI2 Φ ls s) (hj : JJ Φ Ψ ls v) (hl : ls ≤ 100000) : MS s v := by
  intro he
  obtain ⟨a, p, q, b1, b2, b3, b4, b5, b6⟩ := hj
  rw [b3] at he
  rcases h with h | ⟨r, h2, h3, h4⟩
  · rw [h, Im1, I_eq (by omega) (by omega) (by omega) (by omega)] at he
    omega
  · rw [h3, I_eq (by omega) (by omega) (by omega) (by omega)] at he
    have : r = p := by omega
    rw [this] at h4
    exact sw_sok (sw_symm b5) h4
theorem SI2.of {s : SightV} (hj : JJ Φ Ψ ls v) (h1 : SOK s v) (h2 : Sight_stamp s = House_phasesStamp v) : SI2 Φ ls s := by
  obtain ⟨a, p, q, b1, b2, b3, b4, b5, b6⟩ := hj
  exact Or.inr ⟨p, b1, h2.trans b3, sw_sok b5 h1⟩
theorem WE.symm (h : WE w v) : WE v w := ⟨h.1.symm, fun g hg => (h.2.1 g (by rw [← h.1]; exact hg)).symm, fun φ => (h.2.2 φ).symm⟩
/-- the best phases -/
theorem best_s {g : GWV} {b : BestV} {t : HouseV} {s : SightV} (h : BI2 Ψ ls b) (hj : JJ Φ Ψ ls v) (hl : ls ≤ 100000) (hbest : ∃ β, BestIn (EV v) (rM v) (hG v) (prd (rM v) (hG v)) β) : ∃ b' t' s', GW_best g v b t s = some (b', t', s') ∧ BOK b' v ∧ BI2 Ψ ls b' := by
  have hv := hj.1
  obtain ⟨a, p, q, b1, b2, b3, b4, b5, b6⟩ := hj
  unfold GW_best
  by_cases c : Best_stamp b = House_walksStamp v
  · rw [if_pos c]
    refine ⟨b, t, s, rfl, ?_, h⟩
    rw [b4] at c
    rcases h with h | ⟨r, h2, h3, h4⟩
    · rw [h, Im1, I_eq (by omega) (by omega) (by omega) (by omega)] at c
      omega
    · rw [h3, I_eq (by omega) (by omega) (by omega) (by omega)] at c
      have : r = q := by omega
      rw [this] at h4
      exact bok_we b6 h4
  · obtain ⟨b', t', s', e1, e2, e3⟩ := search_s hv.1 hv.2.2.2.2.1 hbest b t s
    rw [if_neg c, e1, bind_s]
    exact ⟨b', t', s', rfl, e2, Or.inr ⟨q, b2, e3.trans b4, bok_we b6.symm e2⟩⟩
end INV

