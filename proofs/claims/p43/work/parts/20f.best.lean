section BESTC
theorem asB_0 {β : Type} (k : Bool → Option β) : asB 0 k = k false := by
  unfold asB
  rw [if_pos rfl]
theorem asB_1 {β : Type} (k : Bool → Option β) : asB 1 k = k true := by
  unfold asB
  rw [if_neg (by decide), if_pos rfl]
theorem inM_b {P : Nat → Nat → Int} {g : Nat} {B : Int} (h : ∀ a b, 0 ≤ P a b ∧ P a b ≤ B) (n : Nat) : 0 ≤ inM P g n ∧ inM P g n ≤ n * B := by
  induction n with
  | zero => unfold inM; omega
  | succ n ih =>
    have := h g n
    have e : ((n + 1 : Nat) : Int) * B = n * B + B := by rw [Int.natCast_add, Int.add_mul]; omega
    unfold inM
    rw [e]
    omega
theorem crM_b {P : Nat → Nat → Int} {B : Int} (hB : 0 ≤ B) (h : ∀ a b, 0 ≤ P a b ∧ P a b ≤ B) {n : Nat} (hn : n ≤ 4) : 0 ≤ crM P n ∧ crM P n ≤ 6 * B := by
  have h0 := inM_b (g := 0) h 0
  have h1 := inM_b (g := 1) h 1
  have h2 := inM_b (g := 2) h 2
  have h3 := inM_b (g := 3) h 3
  have : n = 0 ∨ n = 1 ∨ n = 2 ∨ n = 3 ∨ n = 4 := by omega
  rcases this with rfl | rfl | rfl | rfl | rfl <;> simp only [crM] <;> omega
theorem pairTo_b (w : HouseV) (a b k : Nat) : 0 ≤ pairTo w a b 1 1 k ∧ pairTo w a b 1 1 k ≤ k := by
  induction k with
  | zero => unfold pairTo; omega
  | succ k ih =>
    unfold pairTo
    cases meetB w a b k
    · cases passB w a b k
      · simp only [bif_f]; omega
      · simp only [bif_f, bif_t]; omega
    · simp only [bif_t]; omega
theorem cross_b {v : HouseV} (hw : WFG v) (hG4 : hG v ≤ 4) : 0 ≤ cross v ∧ cross v ≤ 15120 := by
  have hc := cyc_le hw
  unfold cross
  have := crM_b (P := fun a b => pairTo v a b 1 1 (cyc v)) (B := 2520) (by omega) (fun a b => by have := pairTo_b v a b (cyc v); omega) hG4
  omega
theorem worst_b {v : HouseV} (hw : WFG v) : 0 ≤ worst v ∧ worst v ≤ 2520 := by
  have hc1 := cyc_pos hw
  have hc := cyc_le hw
  unfold worst
  exact maxTo_b (by omega) (fun i _ => by have := gapC_b (Sg v i) hc1; omega)
/-! the spans -/
theorem prd_le {r : Nat → Nat} {k : Nat} (h : ∀ g, g < k → 1 ≤ r g ∧ r g ≤ 10) : 1 ≤ prd r k ∧ prd r k ≤ 10 ^ k := by
  induction k with
  | zero => exact ⟨Nat.le_refl 1, Nat.le_refl 1⟩
  | succ k ih =>
    obtain ⟨a, b⟩ := ih fun g hg => h g (by omega)
    obtain ⟨c, d⟩ := h k (by omega)
    exact ⟨Nat.mul_pos a c, Nat.mul_le_mul b d⟩
theorem rC_b {v : HouseV} (hw : WFG v) {g : Nat} (hg : g < hG v) : 1 ≤ rC v g ∧ rC v g ≤ 10 := by
  have h1 := rC_le hw hg
  have h2 := rM_le hw hg
  have h3 := hw.per g hg
  omega
theorem prdC_b {v : HouseV} (hn : WFn v) (hw : WFG v) : 1 ≤ prd (rC v) (hG v) ∧ prd (rC v) (hG v) ≤ 10000 := by
  have h := prd_le (k := hG v) fun g hg => rC_b hw hg
  exact ⟨h.1, Nat.le_trans h.2 (Nat.le_trans (Nat.pow_le_pow_right (by decide) hn.2.2.2.2.2.2.1) (by decide))⟩
theorem begin_loop {v : HouseV} (hn : WFn v) (hw : WFG v) {bv : BestV} : ∀ (q k n : Nat) (f h : Nat → Int32), hG v = k + q → q < n → (∀ g, g < k → f g = I (rC v g : Int) ∧ h g = I ((0 : Nat) : Int)) → ∃ f' h', Best_beginChoices_6 n (I (cycTo (hP v) k : Int)) (I (prd (rC v) k : Int)) (I (k : Int)) (Best_set_spans bv f) (House_set_phases v h) = some (I (prd (rC v) (hG v) : Int), Best_set_spans bv f', House_set_phases v h') ∧ ∀ g, g < hG v → f' g = I (rC v g : Int) ∧ h' g = I ((0 : Nat) : Int) := by
  have hG4 : hG v ≤ 4 := hn.2.2.2.2.2.2.1
  have eG : ∀ h, House_guards (House_set_phases v h) = I (hG v) := fun h => hn.2.2.2.2.2.1
  intro q
  induction q with
  | zero =>
    intro k n f h hk hm h1
    obtain ⟨n, rfl⟩ : ∃ q, n = q + 1 := ⟨n - 1, by omega⟩
    rw [Best_beginChoices_6, eG, if_pos (I_le_t (by omega) (by omega) (by omega)), show k = hG v by omega]
    exact ⟨f, h, rfl, fun g hg => h1 g (by omega)⟩
  | succ q ih =>
    intro k n f h hk hm h1
    obtain ⟨n, rfl⟩ : ∃ q, n = q + 1 := ⟨n - 1, by omega⟩
    have hp := hw.per k (by omega)
    have hc : ∀ g, g < k → 1 ≤ hP v g ∧ hP v g ≤ 10 := fun g hg => hw.per g (by omega)
    have c1 := cycTo_pos hc
    have c2 := cycTo_le hc
    have hl1 : 1 ≤ Nat.lcm (cycTo (hP v) k) (hP v k) := Nat.lcm_pos (by omega) (by omega)
    have hmul : cycTo (hP v) k * hP v k ≤ 2520 * 10 := Nat.mul_le_mul c2 hp.2
    have hl2 : Nat.lcm (cycTo (hP v) k) (hP v k) ≤ cycTo (hP v) k * hP v k := Nat.le_of_dvd (Nat.mul_pos (by omega) (by omega)) (Nat.lcm_dvd (Nat.dvd_mul_right _ _) (Nat.dvd_mul_left _ _))
    have hdiv : cycTo (hP v) k * hP v k / Nat.lcm (cycTo (hP v) k) (hP v k) = rC v k := by
      rw [← Nat.gcd_mul_lcm]
      exact Nat.mul_div_cancel _ hl1
    have eP : House_periods (House_set_phases v h) (I (k : Int)).toNatClampNeg = I (hP v k : Int) := by
      rw [I_clamp k (by omega)]
      exact (hw k (by omega)).1.1
    rw [Best_beginChoices_6, eG, if_neg (I_le_f (by omega) (by omega) (by omega)), I4, if_neg (I_le_f (by omega) (by omega) (by omega)), gd_I (by omega) (by omega) (by omega), eP, leastMultiple_s c1 (by omega) hp.1 hp.2, bind_s, I1, if_pos (I_le_t (by omega) (by omega) (by omega)), gd_t (nz_I (by omega) (by omega)), I_mul, show (cycTo (hP v) k : Int) * (hP v k : Int) = ((cycTo (hP v) k * hP v k : Nat) : Int) from rfl, I_div (by omega) (by omega) (by omega) (by omega), show ((cycTo (hP v) k * hP v k : Nat) : Int) / ((Nat.lcm (cycTo (hP v) k) (hP v k) : Nat) : Int) = ((cycTo (hP v) k * hP v k / Nat.lcm (cycTo (hP v) k) (hP v k) : Nat) : Int) from rfl, hdiv]
    unfold Best_beginChoices_66
    rw [gd_I (by omega) (by omega) (by omega), nmL_e, gd_I (by omega) (by omega) (by omega), I_clamp k (by omega), nmL_e, nmL_e, nmL_e, I_succ]
    have es : Best_spans (Best_set_spans (Best_set_spans bv f) (upd (Best_spans (Best_set_spans bv f)) k (I (rC v k : Int)))) k = I (rC v k : Int) := upd_i
    rw [es, I_mul]
    obtain ⟨f', h', e, h2⟩ := ih (k + 1) n (upd f k (I (rC v k : Int))) (upd h k 0) (by omega) (by omega) (fun g hg => by
      by_cases hgk : g = k
      · subst hgk; exact ⟨upd_i, upd_i⟩
      · rw [upd_n hgk, upd_n hgk]; exact h1 g (by omega))
    exact ⟨f', h', e, h2⟩
theorem beginChoices_s {v : HouseV} (hn : WFn v) (hw : WFG v) (bv : BestV) : ∃ f' h', Best_beginChoices bv v = some (I (prd (rC v) (hG v) : Int), Best_set_spans bv f', House_set_phases v h') ∧ ∀ g, g < hG v → f' g = I (rC v g : Int) ∧ h' g = I ((0 : Nat) : Int) := by
  have hG4 : hG v ≤ 4 := hn.2.2.2.2.2.2.1
  unfold Best_beginChoices
  exact begin_loop hn hw (bv := bv) (hG v) 0 FU (Best_spans bv) (House_phases v) (by omega) (by unfold FU; omega) (fun g hg => absurd hg (by omega))
/-! the next choice -/
theorem next_loop {bv : BestV} {v : HouseV} {r : Nat → Nat} {G : Nat} (hG : G ≤ 4) (hr : ∀ g, g < G → 1 ≤ r g ∧ r g ≤ 10 ∧ Best_spans bv g = I (r g : Int)) : ∀ (k n : Nat) (φ : Nat → Nat) (h : Nat → Int32), k ≤ G → k < n → box r φ G → (∀ g, g < G → h g = I (φ g : Int)) → ∃ φ' h', Best_nextChoice_14 bv n (I ((k : Int) - 1)) (House_set_phases v h) = some (House_set_phases v h') ∧ box r φ' G ∧ (∀ g, g < G → h' g = I (φ' g : Int)) ∧ (∀ g, k ≤ g → φ' g = φ g) ∧ (val r φ k + 1 < prd r k → val r φ' k = val r φ k + 1) := by
  intro k
  induction k with
  | zero =>
    intro n φ h hk hm hb hh
    obtain ⟨n, rfl⟩ : ∃ q, n = q + 1 := ⟨n - 1, by omega⟩
    refine ⟨φ, h, ?_, hb, hh, fun g _ => rfl, fun h => absurd h (by unfold val prd; omega)⟩
    rw [Best_nextChoice_14, I0, if_pos (I_lt_t (by omega) (by omega) (by omega))]
  | succ k ih =>
    intro n φ h hk hm hb hh
    obtain ⟨n, rfl⟩ : ∃ q, n = q + 1 := ⟨n - 1, by omega⟩
    obtain ⟨r1, r2, r3⟩ := hr k (by omega)
    have hbk := hb k (by omega)
    have eh : House_phases (House_set_phases v h) k = I (φ k : Int) := hh k (by omega)
    rw [Best_nextChoice_14, show ((k + 1 : Nat) : Int) - 1 = (k : Int) by omega, I0, if_neg (I_lt_f (by omega) (by omega) (by omega)), gd_I (by omega) (by omega) (by omega), I_clamp k (by omega), r3, eh, I_succ]
    by_cases c : r k ≤ φ k + 1
    · rw [if_pos (I_le_t (by omega) (by omega) (by omega)), nmL_e, nmL_e, Im1, I_add]
      obtain ⟨φ', h', e, b1, b2, b3, b4⟩ := ih n (fun g => if g = k then 0 else φ g) (upd h k (I ((0 : Nat) : Int))) (by omega) (by omega) (fun g hg => by
        try dsimp only
        split
        · rename_i hgk; subst hgk; omega
        · exact hb g hg) (fun g hg => by
        try dsimp only
        by_cases hgk : g = k
        · subst hgk; rw [upd_i, if_pos rfl]
        · rw [upd_n hgk, if_neg hgk]; exact hh g hg)
      refine ⟨φ', h', e, b1, b2, fun g hg => by rw [b3 g (by omega), if_neg (by omega)], fun hv => ?_⟩
      have e1 : val r (fun g => if g = k then 0 else φ g) k = val r φ k := val_congr fun g hg => if_neg (by omega)
      rw [e1] at b4
      have e2 : φ' k = 0 := by rw [b3 k (Nat.le_refl k), if_pos rfl]
      unfold val prd at hv
      unfold val
      have hlt : val r φ k + 1 < prd r k := by
        apply Nat.lt_of_not_le
        intro hle
        have := Nat.mul_le_mul_right (r k) hle
        rw [Nat.succ_mul] at this
        omega
      rw [b4 hlt, e2, Nat.succ_mul]
      omega
    · rw [if_neg (I_le_f (by omega) (by omega) (by omega)), nmL_e]
      refine ⟨fun g => if g = k then φ k + 1 else φ g, _, rfl, fun g hg => ?_, fun g hg => ?_, fun g hg => if_neg (by omega), fun _ => ?_⟩
      · try dsimp only
        split
        · rename_i hgk; subst hgk; omega
        · exact hb g hg
      · try dsimp only
        show upd h k (I ((φ k + 1 : Nat) : Int)) g = _
        by_cases hgk : g = k
        · subst hgk; rw [upd_i, if_pos rfl]
        · rw [upd_n hgk, if_neg hgk]; exact hh g hg
      · unfold val
        rw [val_congr (ψ := φ) fun g hg => if_neg (by omega), if_pos rfl]
        omega
theorem nextChoice_s {bv : BestV} {v : HouseV} (hn : WFn v) (hw : WFG v) (hsp : ∀ g, g < hG v → Best_spans bv g = I (rC v g : Int)) {φ : Nat → Nat} {h : Nat → Int32} (hb : box (rC v) φ (hG v)) (hh : ∀ g, g < hG v → h g = I (φ g : Int)) : ∃ φ' h', Best_nextChoice bv (House_set_phases v h) = some (House_set_phases v h') ∧ box (rC v) φ' (hG v) ∧ (∀ g, g < hG v → h' g = I (φ' g : Int)) ∧ (val (rC v) φ (hG v) + 1 < prd (rC v) (hG v) → val (rC v) φ' (hG v) = val (rC v) φ (hG v) + 1) := by
  have hG4 : hG v ≤ 4 := hn.2.2.2.2.2.2.1
  have eG : House_guards (House_set_phases v h) = I (hG v) := hn.2.2.2.2.2.1
  unfold Best_nextChoice
  rw [nmL_e, eG, I4, imin_I (by omega) (by omega) (by omega) (by omega), I1, I_sub, show min (hG v : Int) 4 - 1 = (hG v : Int) - 1 by omega]
  obtain ⟨φ', h', e, b1, b2, -, b4⟩ := next_loop (v := v) hG4 (fun g hg => ⟨(rC_b hw hg).1, (rC_b hw hg).2, hsp g hg⟩) (hG v) FU φ h (Nat.le_refl _) (by unfold FU; omega) hb hh
  exact ⟨φ', h', e, b1, b2, b4⟩
/-! one try -/
/-- the best ones so far are β -/
def BS (bv : BestV) (v : HouseV) (β : Nat → Nat) : Prop := Best_worst bv = I (EV v β).1 ∧ Best_crossings bv = I (EV v β).2 ∧ ∀ g, g < hG v → Best_phases bv g = I (β g : Int)
theorem HS_h {v : HouseV} {φ : Nat → Nat} {h : Nat → Int32} (hh : ∀ g, g < hG v → h g = I (φ g : Int)) : SW (House_set_phases v h) (HS v φ) := sp_sw hh
theorem WFG_h {v : HouseV} (hw : WFG v) {φ : Nat → Nat} {h : Nat → Int32} (hh : ∀ g, g < hG v → h g = I (φ g : Int)) (hb : box (hP v) φ (hG v)) : WFG (House_set_phases v h) := by
  intro g hg
  have h1 := hw g hg
  have h2 := hb g hg
  have h10 : hP v g ≤ 10 := h1.1.2.1
  have hf : hF (House_set_phases v h) g = φ g := by
    show (h g).toNatClampNeg = _
    rw [hh g hg]
    exact I_clamp _ (by omega)
  exact ⟨h1.1, h1.2.1, by rw [hf]; exact hh g hg, by rw [hf]; exact h2⟩
theorem EV_b {v : HouseV} (hw : WFG v) (hG4 : hG v ≤ 4) {φ : Nat → Nat} (hb : box (hP v) φ (hG v)) : 0 ≤ (EV v φ).1 ∧ (EV v φ).1 ≤ 2520 ∧ 0 ≤ (EV v φ).2 ∧ (EV v φ).2 ≤ 15120 := by
  have h1 := worst_b (HS_wf hw hb)
  have h2 := cross_b (HS_wf hw hb) hG4
  exact ⟨h1.1, h1.2, h2.1, h2.2⟩
theorem cpy_g {f g : Nat → Int32} {i : Nat} (h : i < 4) : va_cpy f g 0 0 4 i = f i := by
  unfold va_cpy
  rw [if_pos (by omega), show 0 + (i - 0) = i by omega]
theorem try_s {v : HouseV} (hn : WFn v) (hw : WFG v) {φ : Nat → Nat} {h : Nat → Int32} (hb : box (hP v) φ (hG v)) (hh : ∀ g, g < hG v → h g = I (φ g : Int)) (bv : BestV) (s : SightV) (first : Bool) {β : Nat → Nat} (hβ : first = false → BS bv v β ∧ box (hP v) β (hG v)) : ∃ bv' s', Best_tryPhases first bv (House_set_phases v h) s = some (bv', s') ∧ Best_spans bv' = Best_spans bv ∧ ((first = true ∨ eLt (EV v φ) (EV v β)) → BS bv' v φ) ∧ (first = false → ¬ eLt (EV v φ) (EV v β) → bv' = bv) := by
  have hG4 : hG v ≤ 4 := hn.2.2.2.2.2.2.1
  have hwh := WFG_h hw hh hb
  have hnh : WFn (House_set_phases v h) := hn
  have ew : worst (House_set_phases v h) = (EV v φ).1 := sw_worst (HS_h hh)
  have ec : cross (House_set_phases v h) = (EV v φ).2 := sw_cross (HS_h hh)
  obtain ⟨b1, b2, b3, b4⟩ := EV_b hw hG4 hb
  obtain ⟨s', es, hs1, -⟩ := measure_s hnh hwh s
  have hs2 : Sight_worst s' = I (EV v φ).1 := by rw [hs1.2, ew]
  have k64 : ∀ b, ∃ bv', Best_tryPhases_64 b (House_set_phases v h) (I (EV v φ).2) bv s' = some (bv', s') ∧ Best_spans bv' = Best_spans bv ∧ BS bv' v φ := by
    intro b
    unfold Best_tryPhases_64
    rw [nmL_e, nmL_e, nmL_e]
    exact ⟨_, rfl, rfl, hs2, rfl, fun g hg => (cpy_g (by omega)).trans (hh g hg)⟩
  unfold Best_tryPhases
  rw [es, bind_s]
  cases first
  · obtain ⟨⟨p1, p2, p3⟩, p4⟩ := hβ rfl
    obtain ⟨d1, d2, d3, d4⟩ := EV_b hw hG4 p4
    rw [bif_f, hs2, p1]
    unfold eLt
    by_cases c1 : (EV v φ).1 ≤ (EV v β).1
    · rw [if_pos (I_le_t c1 (by omega) (by omega))]
      unfold Best_tryPhases_30
      rw [crossings_s hnh hwh, bind_s, ec, bif_f, hs2, p1]
      by_cases c2 : (EV v φ).1 < (EV v β).1
      · rw [if_pos (I_lt_t c2 (by omega) (by omega))]
        obtain ⟨bv', e1, e2, e3⟩ := k64 false
        exact ⟨bv', s', e1, e2, fun _ => e3, fun _ hc => absurd (Or.inl c2) hc⟩
      · rw [if_neg (I_lt_f (by omega) (by omega) (by omega)), p2]
        by_cases c3 : (EV v β).2 ≤ (EV v φ).2
        · rw [if_pos (I_le_t c3 (by omega) (by omega))]
          exact ⟨bv, s', rfl, rfl, fun hc => absurd hc (by simp; omega), fun _ _ => rfl⟩
        · rw [if_neg (I_le_f (by omega) (by omega) (by omega))]
          obtain ⟨bv', e1, e2, e3⟩ := k64 false
          exact ⟨bv', s', e1, e2, fun _ => e3, fun _ hc => absurd (Or.inr ⟨by omega, by omega⟩) hc⟩
    · rw [if_neg (I_le_f (by omega) (by omega) (by omega))]
      exact ⟨bv, s', rfl, rfl, fun hc => absurd hc (by simp; omega), fun _ _ => rfl⟩
  · rw [bif_t]
    unfold Best_tryPhases_30
    rw [crossings_s hnh hwh, bind_s, ec, bif_t]
    obtain ⟨bv', e1, e2, e3⟩ := k64 true
    exact ⟨bv', s', e1, e2, fun _ => e3, fun hc => absurd hc (by simp)⟩
theorem search_loop {v w3 : HouseV} (hn : WFn v) (hw : WFG v) : ∀ (q c n : Nat) (bv : BestV) (h : Nat → Int32) (s : SightV) (φ β : Nat → Nat), prd (rC v) (hG v) = c + q → q < n → 1 ≤ c → (∀ g, g < hG v → Best_spans bv g = I (rC v g : Int)) → box (rC v) φ (hG v) → (∀ g, g < hG v → h g = I (φ g : Int)) → (c < prd (rC v) (hG v) → val (rC v) φ (hG v) = c) → BS bv v β → BestIn (EV v) (rC v) (hG v) c β → ∃ bv' h' s' γ, Best_search_15 w3 (I (prd (rC v) (hG v) : Int)) n (I (c : Int)) bv (House_set_phases v h) s = some (bv', House_set_phases v h', s') ∧ BS bv' v γ ∧ BestIn (EV v) (rC v) (hG v) (prd (rC v) (hG v)) γ ∧ Best_stamp bv' = House_walksStamp w3 := by
  have hN := prdC_b hn hw
  intro q
  induction q with
  | zero =>
    intro c n bv h s φ β hk hm hc hsp hb hh hv hB hI
    obtain ⟨n, rfl⟩ : ∃ q, n = q + 1 := ⟨n - 1, by omega⟩
    rw [Best_search_15, if_pos (I_le_t (by omega) (by omega) (by omega)), nmL_e]
    refine ⟨_, _, _, β, rfl, hB, ?_, rfl⟩
    rw [hk, Nat.add_zero]; exact hI
  | succ q ih =>
    intro c n bv h s φ β hk hm hc hsp hb hh hv hB hI
    obtain ⟨n, rfl⟩ : ∃ q, n = q + 1 := ⟨n - 1, by omega⟩
    have hbP := boxM_P hw (boxC_M hw hb)
    have hbPβ := boxM_P hw (boxC_M hw hI.1)
    obtain ⟨bv1, s1, e1, sp1, t1, t2⟩ := try_s hn hw hbP hh bv s false (β := β) (fun _ => ⟨hB, hbPβ⟩)
    have hsp1 : ∀ g, g < hG v → Best_spans bv1 g = I (rC v g : Int) := fun g hg => by rw [sp1]; exact hsp g hg
    obtain ⟨φ', h', e2, b1, b2, b3⟩ := nextChoice_s hn hw hsp1 hb hh
    rw [Best_search_15, if_neg (I_le_f (by omega) (by omega) (by omega)), if_neg (show ¬ I (c : Int) = 0 by rw [I0]; exact I_ne (by omega) (by omega) (by omega) (by omega) (by omega))]
    unfold Best_search_30
    rw [asB_0, e1, bind_s, e2, bind_s, nmL_e, I_succ]
    have hv1 := hv (by omega)
    by_cases c1 : eLt (EV v φ) (EV v β)
    · exact ih (c + 1) n bv1 h' s1 φ' φ (by omega) (by omega) (by omega) hsp1 b1 b2 (fun hl => by rw [b3 (by omega), hv1]) (t1 (Or.inr c1)) (best_new EV_congr hI hb hv1 c1)
    · have e3 := t2 rfl c1
      subst e3
      exact ih (c + 1) n bv1 h' s1 φ' β (by omega) (by omega) (by omega) hsp1 b1 b2 (fun hl => by rw [b3 (by omega), hv1]) hB (best_same EV_congr hI hb hv1 c1)
/-- the search, on a house that stands already in the trial -/
theorem search15_s {v w3 : HouseV} (hn : WFn v) (hw : WFG v) {bv : BestV} {h : Nat → Int32} {s : SightV} (hsp : ∀ g, g < hG v → Best_spans bv g = I (rC v g : Int)) (hh : ∀ g, g < hG v → h g = I ((0 : Nat) : Int)) : ∃ bv' h' s' γ, Best_search_15 w3 (I (prd (rC v) (hG v) : Int)) FU 0 bv (House_set_phases v h) s = some (bv', House_set_phases v h', s') ∧ BS bv' v γ ∧ BestIn (EV v) (rC v) (hG v) (prd (rC v) (hG v)) γ ∧ Best_stamp bv' = House_walksStamp w3 := by
  have hN := prdC_b hn hw
  have hb : box (rC v) (fun _ => 0) (hG v) := fun g hg => (rC_b hw hg).1
  have hv0 : ∀ k, val (rC v) (fun _ => 0) k = 0 := by
    intro k
    induction k with
    | zero => rfl
    | succ k ih => unfold val; rw [ih, Nat.zero_mul]
  have hbP := boxM_P hw (boxC_M hw hb)
  obtain ⟨bv1, s1, e1, sp1, t1, -⟩ := try_s hn hw hbP hh bv s true (β := fun _ => 0) (fun h => by cases h)
  have hsp1 : ∀ g, g < hG v → Best_spans bv1 g = I (rC v g : Int) := fun g hg => by rw [sp1]; exact hsp g hg
  obtain ⟨φ', h', e2, b1, b2, b3⟩ := nextChoice_s hn hw hsp1 hb hh
  rw [show FU = 199999 + 1 from rfl, Best_search_15, I_zero, if_neg (I_le_f (by omega) (by omega) (by omega)), if_pos rfl]
  unfold Best_search_30
  rw [asB_1, e1, bind_s, e2, bind_s, nmL_e, I_succ]
  exact search_loop hn hw (prd (rC v) (hG v) - 1) 1 199999 bv1 h' s1 φ' (fun _ => 0) (by omega) (by omega) (by omega) hsp1 b1 b2 (fun hl => by rw [b3 (by rw [hv0]; omega), hv0]) (t1 (Or.inl rfl)) (best_first EV_congr hb (hv0 _))
end BESTC

