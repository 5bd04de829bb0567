section VALS
def val (r φ : Nat → Nat) : Nat → Nat
  | 0 => 0
  | k + 1 => val r φ k * r k + φ k
def prd (r : Nat → Nat) : Nat → Nat
  | 0 => 1
  | k + 1 => prd r k * r k
def box (r φ : Nat → Nat) (G : Nat) : Prop := ∀ g, g < G → φ g < r g
theorem mul_step {a b r x : Nat} (h : a < b) (hx : x < r) : a * r + x < b * r := by
  have : (a + 1) * r ≤ b * r := Nat.mul_le_mul_right r h
  rw [Nat.succ_mul] at this
  omega
theorem val_lt {r φ : Nat → Nat} {k : Nat} (h : box r φ k) : val r φ k < prd r k := by
  induction k with
  | zero => exact Nat.one_pos
  | succ k ih => exact mul_step (ih fun g hg => h g (by omega)) (h k (by omega))
theorem val_congr {r φ ψ : Nat → Nat} {k : Nat} (h : ∀ g, g < k → φ g = ψ g) : val r φ k = val r ψ k := by
  induction k with
  | zero => rfl
  | succ k ih => unfold val; rw [ih fun g hg => h g (by omega), h k (by omega)]
theorem val_tri {r s φ ψ : Nat → Nat} {k : Nat} (h1 : box r φ k) (h2 : box r ψ k) (h3 : box s φ k) (h4 : box s ψ k) : (val r φ k < val r ψ k ∧ val s φ k < val s ψ k) ∨ (∀ g, g < k → φ g = ψ g) ∨ (val r ψ k < val r φ k ∧ val s ψ k < val s φ k) := by
  induction k with
  | zero => exact Or.inr (Or.inl fun g hg => absurd hg (by omega))
  | succ k ih =>
    have a1 := h1 k (by omega)
    have a2 := h2 k (by omega)
    have a3 := h3 k (by omega)
    have a4 := h4 k (by omega)
    unfold val
    rcases ih (fun g hg => h1 g (by omega)) (fun g hg => h2 g (by omega)) (fun g hg => h3 g (by omega)) (fun g hg => h4 g (by omega)) with ⟨b1, b2⟩ | b | ⟨b1, b2⟩
    · have c1 := mul_step b1 a1
      have c2 := mul_step b2 a3
      left; omega
    · have c1 := val_congr (r := r) b
      have c2 := val_congr (r := s) b
      rw [c1, c2]
      rcases Nat.lt_trichotomy (φ k) (ψ k) with d | d | d
      · left; omega
      · right; left
        intro g hg
        by_cases hgk : g = k
        · rw [hgk]; exact d
        · exact b g (by omega)
      · right; right; omega
    · have c1 := mul_step b1 a2
      have c2 := mul_step b2 a4
      right; right; omega
theorem val_first {r φ ψ : Nat → Nat} {g k : Nat} (h1 : ∀ h, h < g → φ h = ψ h) (h2 : φ g < ψ g) (h3 : g < k) (hb : box r φ k) : val r φ k < val r ψ k := by
  induction k with
  | zero => omega
  | succ k ih =>
    unfold val
    by_cases hgk : g = k
    · subst hgk
      rw [val_congr h1]
      omega
    · have := mul_step (ih (by omega) fun g hg => hb g (by omega)) (hb k (by omega))
      omega
def eLt (a b : Int × Int) : Prop := a.1 < b.1 ∨ (a.1 = b.1 ∧ a.2 < b.2)
/-- the first best one of those whose number is below c -/
def BestIn (E : (Nat → Nat) → Int × Int) (r : Nat → Nat) (G c : Nat) (β : Nat → Nat) : Prop := box r β G ∧ val r β G < c ∧ ∀ ψ, box r ψ G → val r ψ G < c → eLt (E β) (E ψ) ∨ (E β = E ψ ∧ val r β G ≤ val r ψ G)
theorem best_first {E : (Nat → Nat) → Int × Int} {r cur : Nat → Nat} {G : Nat} (hE : ∀ φ ψ : Nat → Nat, (∀ g, g < G → φ g = ψ g) → E φ = E ψ) (hb : box r cur G) (hv : val r cur G = 0) : BestIn E r G 1 cur := by
  refine ⟨hb, by omega, fun ψ hψ hl => Or.inr ⟨?_, by omega⟩⟩
  refine hE _ _ fun g hg => ?_
  rcases val_tri hb hψ hb hψ with h | h | h
  · omega
  · exact h g hg
  · omega
theorem best_same {E : (Nat → Nat) → Int × Int} {r cur β : Nat → Nat} {G c : Nat} (hE : ∀ φ ψ : Nat → Nat, (∀ g, g < G → φ g = ψ g) → E φ = E ψ) (hB : BestIn E r G c β) (hb : box r cur G) (hv : val r cur G = c) (h : ¬ eLt (E cur) (E β)) : BestIn E r G (c + 1) β := by
  refine ⟨hB.1, by have := hB.2.1; omega, fun ψ hψ hl => ?_⟩
  by_cases hc : val r ψ G < c
  · exact hB.2.2 ψ hψ hc
  · have e : E ψ = E cur := hE _ _ fun g hg => by
      rcases val_tri hψ hb hψ hb with h | h | h
      · omega
      · exact h g hg
      · omega
    rw [e]
    have hlt := hB.2.1
    unfold eLt at h ⊢
    by_cases h1 : (E β).1 < (E cur).1
    · exact Or.inl (Or.inl h1)
    · by_cases h2 : (E β).2 < (E cur).2
      · exact Or.inl (Or.inr ⟨by omega, h2⟩)
      · exact Or.inr ⟨Prod.ext (by omega) (by omega), by omega⟩
theorem best_new {E : (Nat → Nat) → Int × Int} {r cur β : Nat → Nat} {G c : Nat} (hE : ∀ φ ψ : Nat → Nat, (∀ g, g < G → φ g = ψ g) → E φ = E ψ) (hB : BestIn E r G c β) (hb : box r cur G) (hv : val r cur G = c) (h : eLt (E cur) (E β)) : BestIn E r G (c + 1) cur := by
  refine ⟨hb, by omega, fun ψ hψ hl => ?_⟩
  by_cases hc : val r ψ G < c
  · left
    unfold eLt at h ⊢
    rcases hB.2.2 ψ hψ hc with h1 | ⟨h1, -⟩
    · unfold eLt at h1; omega
    · rw [← h1]; exact h
  · right
    refine ⟨hE _ _ fun g hg => ?_, by omega⟩
    rcases val_tri hb hψ hb hψ with h | h | h
    · omega
    · exact h g hg
    · omega
theorem best_uni {E : (Nat → Nat) → Int × Int} {r s β γ : Nat → Nat} {G : Nat} (h1 : BestIn E r G (prd r G) β) (h2 : BestIn E s G (prd s G) γ) (hb : box s β G) (hsub : ∀ φ, box s φ G → box r φ G) : ∀ g, g < G → β g = γ g := by
  have a1 := h1.2.2 γ (hsub γ h2.1) (val_lt (hsub γ h2.1))
  have a2 := h2.2.2 β hb (val_lt hb)
  have t := val_tri h1.1 (hsub γ h2.1) hb h2.1
  unfold eLt at a1 a2
  rcases a1 with a1 | ⟨a1, b1⟩
  · rcases a2 with a2 | ⟨a2, b2⟩
    · omega
    · rw [a2] at a1; omega
  · rcases a2 with a2 | ⟨a2, b2⟩
    · rw [a1] at a2; omega
    · rcases t with t | t | t
      · omega
      · exact t
      · omega
/-! the phases of a house -/
def HS (v : HouseV) (φ : Nat → Nat) : HouseV := House_set_phases v (fun g => I (φ g : Int))
def EV (v : HouseV) (φ : Nat → Nat) : Int × Int := (worst (HS v φ), cross (HS v φ))
def rM (v : HouseV) (g : Nat) : Nat := if g = 0 then 1 else hP v g
def rC (v : HouseV) (g : Nat) : Nat := Nat.gcd (cycTo (hP v) g) (hP v g)
theorem sp_R (v : HouseV) (f : Nat → Int32) : hR (House_set_phases v f) = hR v := rfl
theorem sp_G (v : HouseV) (f : Nat → Int32) : hG (House_set_phases v f) = hG v := rfl
theorem sp_P (v : HouseV) (f : Nat → Int32) : hP (House_set_phases v f) = hP v := rfl
theorem sp_W (v : HouseV) (f : Nat → Int32) : hW (House_set_phases v f) = hW v := rfl
theorem sp_F (v : HouseV) (f : Nat → Int32) (g : Nat) : hF (House_set_phases v f) g = (f g).toNatClampNeg := rfl
theorem sp_n {v : HouseV} (f : Nat → Int32) (h : WFn v) : WFn (House_set_phases v f) := h
theorem sp_w {v : HouseV} (f : Nat → Int32) {g : Nat} (h : WFw v g) : WFw (House_set_phases v f) g := h
theorem sp_ph (v : HouseV) (f : Nat → Int32) : House_phases (House_set_phases v f) = f := rfl
theorem sp_pl (v : HouseV) (f : Nat → Int32) (g t : Nat) : place (House_set_phases v f) g t = hW v g ((t % hP v g + (f g).toNatClampNeg) % hP v g) := rfl
theorem sp_sw {v : HouseV} {f h : Nat → Int32} (e : ∀ g, g < hG v → f g = h g) : SW (House_set_phases v f) (House_set_phases v h) := by
  refine ⟨(sp_R v f).trans (sp_R v h).symm, (sp_G v f).trans (sp_G v h).symm, fun g hg => ⟨by rw [sp_P, sp_P], fun t => ?_⟩⟩
  rw [sp_G] at hg
  rw [sp_pl, sp_pl, e g hg]
theorem HS_R (v : HouseV) (φ : Nat → Nat) : hR (HS v φ) = hR v := sp_R v _
theorem HS_G (v : HouseV) (φ : Nat → Nat) : hG (HS v φ) = hG v := sp_G v _
theorem HS_P (v : HouseV) (φ : Nat → Nat) : hP (HS v φ) = hP v := sp_P v _
theorem HS_n {v : HouseV} (φ : Nat → Nat) (h : WFn v) : WFn (HS v φ) := sp_n _ h
theorem HS_pl (v : HouseV) (φ : Nat → Nat) (g t : Nat) : place (HS v φ) g t = hW v g ((t % hP v g + (I (φ g : Int)).toNatClampNeg) % hP v g) := sp_pl v _ g t
theorem HS_F {v : HouseV} {φ : Nat → Nat} {g : Nat} (h : φ g < 100) : hF (HS v φ) g = φ g := (sp_F v _ g).trans (I_clamp (φ g) (by omega))
theorem HS_wf {v : HouseV} (hw : WFG v) {φ : Nat → Nat} (hb : box (hP v) φ (hG v)) : WFG (HS v φ) := by
  intro g hg
  rw [HS_G] at hg
  have h1 := hw g hg
  have h2 := hb g hg
  have h10 : hP v g ≤ 10 := h1.1.2.1
  have hf : hF (HS v φ) g = φ g := HS_F (by omega)
  refine ⟨sp_w _ h1.1, by rw [HS_P]; exact h1.2.1, ?_, by rw [hf, HS_P]; exact h2⟩
  rw [hf]
  exact congrFun (sp_ph v fun g => I (φ g : Int)) g
theorem place_HS {v : HouseV} {φ : Nat → Nat} {g t : Nat} (h : φ g < 100) : place (HS v φ) g t = hW v g ((t % hP v g + φ g) % hP v g) := by
  rw [HS_pl, I_clamp (φ g) (by omega)]
theorem HS_sw {v : HouseV} {φ ψ : Nat → Nat} (h : ∀ g, g < hG v → φ g = ψ g) : SW (HS v φ) (HS v ψ) := sp_sw fun g hg => by rw [h g hg]
theorem EV_congr {v : HouseV} (φ ψ : Nat → Nat) (h : ∀ g, g < hG v → φ g = ψ g) : EV v φ = EV v ψ := by
  unfold EV
  rw [sw_worst (HS_sw h), sw_cross (HS_sw h)]
theorem HS_shi {v : HouseV} (hw : WFG v) {φ : Nat → Nat} (d : Nat) (hb : box (hP v) φ (hG v)) : SHI d (HS v φ) (HS v fun g => (φ g + d) % hP v g) := by
  refine ⟨(HS_R v φ).trans (HS_R v _).symm, (HS_G v φ).trans (HS_G v _).symm, fun g hg => ⟨by rw [HS_P, HS_P], fun t => ?_⟩⟩
  rw [HS_G] at hg
  have h1 := hw.per g hg
  have h2 := hb g hg
  have h3 : (φ g + d) % hP v g < hP v g := Nat.mod_lt _ (by omega)
  rw [place_HS (by omega), place_HS (by omega), ← Nat.add_mod, Nat.mod_add_mod, show t + (φ g + d) = t + d + φ g by omega]
theorem EV_shift {v : HouseV} (hw : WFG v) {φ : Nat → Nat} (d : Nat) (hb : box (hP v) φ (hG v)) : EV v (fun g => (φ g + d) % hP v g) = EV v φ := by
  unfold EV
  rw [shi_worst (HS_wf hw hb) (HS_shi hw d hb), shi_cross (HS_shi hw d hb)]
theorem red_num : ∀ p, p < 11 → 1 ≤ p → ∀ c, c < p → ∀ b, b < p → ∃ x, x < p ∧ (b + c * x) % p = b % Nat.gcd c p := by decide +kernel
theorem red_num' {p b : Nat} (c : Nat) (h1 : 1 ≤ p) (h2 : p ≤ 10) (hb : b < p) : ∃ x, (b + c * x) % p = b % Nat.gcd c p := by
  obtain ⟨x, -, h⟩ := red_num p (by omega) h1 (c % p) (Nat.mod_lt _ h1) b hb
  refine ⟨x, ?_⟩
  have e : (b + c % p * x) % p = (b + c * x) % p := by
    rw [Nat.add_mod, Nat.mul_mod, Nat.mod_mod, ← Nat.mul_mod, ← Nat.add_mod]
  rw [← e, h, ← Nat.gcd_rec, Nat.gcd_comm]
theorem rC_le {v : HouseV} (hw : WFG v) {g : Nat} (hg : g < hG v) : 1 ≤ rC v g ∧ rC v g ≤ rM v g := by
  have h1 := hw.per g hg
  unfold rC rM
  refine ⟨Nat.gcd_pos_of_pos_right _ h1.1, ?_⟩
  by_cases h : g = 0
  · subst h
    rw [if_pos rfl]
    show Nat.gcd 1 _ ≤ 1
    rw [Nat.gcd_one_left]
    exact Nat.le_refl 1
  · rw [if_neg h]
    exact Nat.gcd_le_right _ h1.1
theorem rM_le {v : HouseV} (hw : WFG v) {g : Nat} (hg : g < hG v) : rM v g ≤ hP v g := by
  have h1 := hw.per g hg
  unfold rM
  split
  · exact h1.1
  · exact Nat.le_refl _
theorem boxM_P {v : HouseV} (hw : WFG v) {φ : Nat → Nat} (h : box (rM v) φ (hG v)) : box (hP v) φ (hG v) := fun g hg => Nat.lt_of_lt_of_le (h g hg) (rM_le hw hg)
theorem boxC_M {v : HouseV} (hw : WFG v) {φ : Nat → Nat} (h : box (rC v) φ (hG v)) : box (rM v) φ (hG v) := fun g hg => Nat.lt_of_lt_of_le (h g hg) (rC_le hw hg).2
/-- the best ones stand in the smaller box -/
theorem best_red {v : HouseV} (hw : WFG v) {β : Nat → Nat} (h : BestIn (EV v) (rM v) (hG v) (prd (rM v) (hG v)) β) : box (rC v) β (hG v) := by
  intro g hg
  apply Nat.lt_of_not_le
  intro hle
  have hbP := boxM_P hw h.1
  have h1 := hw.per g hg
  have h0 : 1 ≤ g := by
    apply Nat.pos_of_ne_zero
    intro h0
    subst h0
    have := h.1 0 hg
    unfold rM at this
    rw [if_pos rfl] at this
    have := (rC_le hw hg).1
    omega
  obtain ⟨x, hx⟩ := red_num' (cycTo (hP v) g) h1.1 h1.2 (hbP g hg)
  have hlt : β g % rC v g < rC v g := Nat.mod_lt _ (rC_le hw hg).1
  have low : ∀ k, k < g → (β k + cycTo (hP v) g * x) % hP v k = β k := fun k hk => by
    obtain ⟨q, hq⟩ : hP v k ∣ cycTo (hP v) g := cycTo_per hk
    rw [hq, Nat.mul_assoc, Nat.add_mul_mod_self_left, Nat.mod_eq_of_lt (hbP k (by omega))]
  have hbox : box (rM v) (fun k => (β k + cycTo (hP v) g * x) % hP v k) (hG v) := by
    intro k hk
    dsimp only
    by_cases hk0 : k < g
    · rw [low k hk0]; exact h.1 k hk
    · unfold rM
      rw [if_neg (by omega)]
      exact Nat.mod_lt _ (hw.per k hk).1
  have hv := val_first (r := rM v) (φ := fun k => (β k + cycTo (hP v) g * x) % hP v k) (ψ := β) (g := g) (k := hG v) low (by
    show (β g + cycTo (hP v) g * x) % hP v g < β g
    rw [hx]
    show β g % rC v g < β g
    omega) hg hbox
  have hE := EV_shift hw (cycTo (hP v) g * x) hbP
  rcases h.2.2 _ hbox (val_lt hbox) with h2 | ⟨h2, h3⟩
  · rw [hE] at h2
    unfold eLt at h2
    omega
  · omega
end VALS

