section SHIFT
theorem ors_congr {f g : Nat → Nat} {n : Nat} (h : ∀ i, i < n → f i = g i) : ors f n = ors g n := by
  induction n with
  | zero => rfl
  | succ n ih => unfold ors; rw [ih (fun i hi => h i (by omega)), h n (by omega)]
theorem cycTo_congr {p q : Nat → Nat} {n : Nat} (h : ∀ i, i < n → p i = q i) : cycTo p n = cycTo q n := by
  induction n with
  | zero => rfl
  | succ n ih => unfold cycTo; rw [ih (fun i hi => h i (by omega)), h n (by omega)]
theorem maxTo_congr {f g : Nat → Int} {n : Nat} (h : ∀ i, i < n → f i = g i) : maxTo f n = maxTo g n := by
  induction n with
  | zero => rfl
  | succ n ih => unfold maxTo; rw [ih (fun i hi => h i (by omega)), h n (by omega)]
theorem inM_congr {P Q : Nat → Nat → Int} {g n : Nat} (h : ∀ b, b < n → P g b = Q g b) : inM P g n = inM Q g n := by
  induction n with
  | zero => rfl
  | succ n ih => unfold inM; rw [ih (fun i hi => h i (by omega)), h n (by omega)]
theorem crM_congr {P Q : Nat → Nat → Int} {n : Nat} (h : ∀ a b, a < n → b < a → P a b = Q a b) : crM P n = crM Q n := by
  induction n with
  | zero => rfl
  | succ n ih => unfold crM; rw [ih (fun a b ha hb => h a b (by omega) hb), inM_congr (fun b hb => h n b (by omega) hb)]
theorem pairTo_congr {w w' : HouseV} {a b n : Nat} {mt ps : Int} (h : ∀ t, t < n → meetB w a b t = meetB w' a b t ∧ passB w a b t = passB w' a b t) : pairTo w a b mt ps n = pairTo w' a b mt ps n := by
  induction n with
  | zero => rfl
  | succ n ih => unfold pairTo; rw [ih (fun t ht => h t (by omega)), (h n (by omega)).1, (h n (by omega)).2]
/-- two houses whose guards walk alike -/
def SW (w w' : HouseV) : Prop := hR w = hR w' ∧ hG w = hG w' ∧ ∀ g, g < hG w → hP w g = hP w' g ∧ ∀ t, place w g t = place w' g t
theorem sw_seen {w w' : HouseV} (h : SW w w') (t : Nat) : seen w t = seen w' t := by
  show ors _ (hG w) = ors _ (hG w')
  rw [← h.2.1]
  exact ors_congr fun g hg => by rw [(h.2.2 g hg).2 t]
theorem sw_cyc {w w' : HouseV} (h : SW w w') : cyc w = cyc w' := by
  show cycTo _ (hG w) = cycTo _ (hG w')
  rw [← h.2.1]
  exact cycTo_congr fun g hg => (h.2.2 g hg).1
theorem sw_Sg {w w' : HouseV} (h : SW w w') (r : Nat) : Sg w r = Sg w' r := funext fun t => by
  show (seen w t).testBit r = (seen w' t).testBit r
  rw [sw_seen h]
theorem sw_worst {w w' : HouseV} (h : SW w w') : worst w = worst w' := by
  show maxTo _ (hR w) = maxTo _ (hR w')
  rw [← h.1]
  exact maxTo_congr fun r _ => by rw [sw_Sg h, sw_cyc h]
theorem sw_meet {w w' : HouseV} (h : SW w w') {a b : Nat} (ha : a < hG w) (hb : b < hG w) (t : Nat) : meetB w a b t = meetB w' a b t := by
  unfold meetB
  rw [(h.2.2 a ha).2, (h.2.2 b hb).2]
theorem sw_pass {w w' : HouseV} (h : SW w w') {a b : Nat} (ha : a < hG w) (hb : b < hG w) (t : Nat) : passB w a b t = passB w' a b t := by
  unfold passB
  rw [sw_meet h ha hb, (h.2.2 a ha).2, (h.2.2 b hb).2, (h.2.2 a ha).2, (h.2.2 b hb).2]
theorem sw_cross {w w' : HouseV} (h : SW w w') : cross w = cross w' := by
  show crM _ (hG w) = crM _ (hG w')
  rw [← h.2.1, ← sw_cyc h]
  exact crM_congr fun a b ha hb => pairTo_congr fun t _ => ⟨sw_meet h ha (by omega) t, sw_pass h ha (by omega) t⟩
theorem sw_sok {w w' : HouseV} (h : SW w w') {s : SightV} (hs : SOK s w) : SOK s w' := by
  refine ⟨fun r hr => ?_, by rw [hs.2, sw_worst h]⟩
  rw [← h.1] at hr
  have := hs.1 r hr
  rw [sw_Sg h, sw_cyc h] at this
  exact this
theorem sw_symm {w w' : HouseV} (h : SW w w') : SW w' w := ⟨h.1.symm, h.2.1.symm, fun g hg => ⟨((h.2.2 g (by rw [h.2.1]; exact hg)).1).symm, fun t => ((h.2.2 g (by rw [h.2.1]; exact hg)).2 t).symm⟩⟩
theorem sw_trans {w w' w'' : HouseV} (h : SW w w') (h' : SW w' w'') : SW w w'' := ⟨h.1.trans h'.1, h.2.1.trans h'.2.1, fun g hg => ⟨(h.2.2 g hg).1.trans (h'.2.2 g (by rw [← h.2.1]; exact hg)).1, fun t => ((h.2.2 g hg).2 t).trans ((h'.2.2 g (by rw [← h.2.1]; exact hg)).2 t)⟩⟩
theorem sw_rfl {w : HouseV} : SW w w := ⟨rfl, rfl, fun _ _ => ⟨rfl, fun _ => rfl⟩⟩
/-! the gap, said without its scan -/
def gq (S : Nat → Bool) (t : Nat) (x : CS) : Prop :=
  (x.1 = -1 ∧ x.2.1 = -1 ∧ x.2.2.1 = 0 ∧ ∀ i, i < t → S i = false) ∨
  (∃ f l g : Nat, x.1 = f ∧ x.2.1 = l ∧ x.2.2.1 = g ∧ f ≤ l ∧ l < t ∧ S f = true ∧ S l = true ∧ (∀ i, i < f → S i = false) ∧ (∀ i, l < i → i < t → S i = false) ∧ (∃ a, ∀ i, i < g → S (a + i) = false) ∧ ∀ a L, f ≤ a → a + L ≤ l + 1 → (∀ i, i < L → S (a + i) = false) → L ≤ g)
theorem gq_step {S : Nat → Bool} {t : Nat} {x : CS} (hs : S t = true) (h : gq S t x) : gq S (t + 1) (cstep (t : Int) x) := by
  obtain ⟨f, l, g, b, c⟩ := x
  unfold cstep
  dsimp only
  rcases h with ⟨h1, h2, h3, h4⟩ | ⟨f', l', g', h1, h2, h3, h4, h5, h6, h7, h8, h9, h10, h11⟩
  · dsimp only at h1 h2 h3
    rw [if_pos h2]
    refine Or.inr ⟨t, t, 0, rfl, rfl, h3, Nat.le_refl t, by omega, hs, hs, h4, fun i h h' => by omega, ⟨0, fun i hi => absurd hi (by omega)⟩, fun a L ha hL hr => ?_⟩
    apply Nat.le_of_not_lt
    intro hp
    have := hr 0 hp
    rw [show a + 0 = t by omega, hs] at this
    cases this
  · dsimp only at h1 h2 h3
    subst h1 h2 h3
    rw [if_neg (by omega)]
    have key : ∀ G : Nat, g' ≤ G → t - l' - 1 ≤ G → ∀ a L, f' ≤ a → a + L ≤ t + 1 → (∀ i, i < L → S (a + i) = false) → L ≤ G := by
      intro G k1 k2 a L ha hL hr
      by_cases hal : a ≤ l'
      · have : a + L ≤ l' := by
          apply Nat.le_of_not_lt
          intro hc
          have := hr (l' - a) (by omega)
          rw [show a + (l' - a) = l' by omega, h7] at this
          cases this
        have := h11 a L ha (by omega) hr
        omega
      · by_cases hL0 : L = 0
        · omega
        have : a + L ≤ t := by
          apply Nat.le_of_not_lt
          intro hc
          have := hr (t - a) (by omega)
          rw [show a + (t - a) = t by omega, hs] at this
          cases this
        omega
    by_cases hc : (t : Int) - (l' : Int) - 1 ≤ (g' : Int)
    · rw [if_pos hc]
      exact Or.inr ⟨f', t, g', rfl, rfl, rfl, by omega, by omega, h6, hs, h8, fun i h h' => by omega, h10, key g' (Nat.le_refl _) (by omega)⟩
    · rw [if_neg hc]
      refine Or.inr ⟨f', t, t - l' - 1, rfl, rfl, by dsimp only; omega, by omega, by omega, h6, hs, h8, fun i h h' => by omega, ⟨l' + 1, fun i hi => h9 _ (by omega) (by omega)⟩, key _ (by omega) (Nat.le_refl _)⟩
theorem gq_cst (S : Nat → Bool) (t : Nat) : gq S t (cst S t) := by
  induction t with
  | zero => exact Or.inl ⟨rfl, rfl, rfl, fun i h => absurd h (by omega)⟩
  | succ t ih =>
    unfold cst
    cases hS : S t
    · rw [bif_f]
      rcases ih with ⟨h1, h2, h3, h4⟩ | ⟨f', l', g', h1, h2, h3, h4, h5, h6, h7, h8, h9, h10, h11⟩
      · refine Or.inl ⟨h1, h2, h3, fun i hi => ?_⟩
        by_cases hit : i = t
        · rw [hit]; exact hS
        · exact h4 i (by omega)
      · refine Or.inr ⟨f', l', g', h1, h2, h3, h4, by omega, h6, h7, h8, fun i hi hi2 => ?_, h10, h11⟩
        by_cases hit : i = t
        · rw [hit]; exact hS
        · exact h9 i hi (by omega)
    · rw [bif_t]; exact gq_step hS ih
theorem per_mod {S : Nat → Bool} {n : Nat} (hp : ∀ t, S (t + n) = S t) (k x : Nat) : S (x + k * n) = S x := by
  induction k with
  | zero => rw [Nat.zero_mul, Nat.add_zero]
  | succ k ih => rw [Nat.succ_mul, ← Nat.add_assoc, hp, ih]
theorem per_m {S : Nat → Bool} {n : Nat} (hp : ∀ t, S (t + n) = S t) (x : Nat) : S x = S (x % n) := by
  have := per_mod hp (x / n) (x % n)
  rw [show x % n + x / n * n = x by rw [Nat.mul_comm]; exact Nat.mod_add_div x n] at this
  exact this
theorem gap_none {S : Nat → Bool} {n : Nat} (h : ∀ t, t < n → S t = false) : gapC S n = -1 := by
  unfold gapC
  rcases gq_cst S n with h1 | ⟨f', l', g', h1, h2, h3, h4, h5, h6, -⟩
  · rw [if_pos h1.2.1]
  · rw [h f' (by omega)] at h6; cases h6
theorem gap_char {S : Nat → Bool} {n : Nat} (hn : 1 ≤ n) (hp : ∀ t, S (t + n) = S t) (hs : ∃ t, t < n ∧ S t = true) : ∃ G : Nat, gapC S n = G ∧ (∃ a, ∀ i, i < G → S (a + i) = false) ∧ ∀ a L, (∀ i, i < L → S (a + i) = false) → L ≤ G := by
  unfold gapC
  rcases gq_cst S n with h1 | ⟨f, l, g, h1, h2, h3, h4, h5, h6, h7, h8, h9, ⟨a0, h10⟩, h11⟩
  · obtain ⟨t, ht, h⟩ := hs
    rw [h1.2.2.2 t ht] at h; cases h
  · rw [h1, h2, h3, if_neg (by omega)]
    have mx : ∀ G : Nat, g ≤ G → f + n - l - 1 ≤ G → ∀ a L, (∀ i, i < L → S (a + i) = false) → L ≤ G := by
      intro G k1 k2 a L hr
      have hr' : ∀ i, i < L → S (a % n + i) = false := fun i hi => by
        rw [per_m hp, Nat.mod_add_mod, ← per_m hp]; exact hr i hi
      have hlt : a % n < n := Nat.mod_lt _ (by omega)
      generalize a % n = b at hr' hlt
      by_cases hb : b ≤ l
      · by_cases hbf : f ≤ b
        · have : b + L ≤ l := by
            apply Nat.le_of_not_lt
            intro hc
            have := hr' (l - b) (by omega)
            rw [show b + (l - b) = l by omega, h7] at this
            cases this
          have := h11 b L hbf (by omega) hr'
          omega
        · have : b + L ≤ f := by
            apply Nat.le_of_not_lt
            intro hc
            have := hr' (f - b) (by omega)
            rw [show b + (f - b) = f by omega, h6] at this
            cases this
          omega
      · have : b + L ≤ n + f := by
          apply Nat.le_of_not_lt
          intro hc
          have := hr' (n + f - b) (by omega)
          rw [show b + (n + f - b) = f + n by omega, hp, h6] at this
          cases this
        omega
    by_cases hc : (g : Int) < (f : Int) + n - l - 1
    · rw [if_pos hc]
      refine ⟨f + n - l - 1, by omega, ⟨l + 1, fun i hi => ?_⟩, mx _ (by omega) (Nat.le_refl _)⟩
      by_cases hi2 : l + 1 + i < n
      · exact h9 _ (by omega) hi2
      · rw [show l + 1 + i = (l + 1 + i - n) + n by omega, hp]
        exact h8 _ (by omega)
    · rw [if_neg hc]
      exact ⟨g, rfl, ⟨a0, h10⟩, mx _ (Nat.le_refl _) (by omega)⟩
theorem gap_shift {S S' : Nat → Bool} {n d : Nat} (hn : 1 ≤ n) (hp : ∀ t, S (t + n) = S t) (h : ∀ t, S' t = S (t + d)) : gapC S' n = gapC S n := by
  have hp' : ∀ t, S' (t + n) = S' t := fun t => by rw [h, h, show t + n + d = t + d + n by omega, hp]
  have back : ∀ x, S' (x + d * (n - 1)) = S x := fun x => by
    rw [h, show x + d * (n - 1) + d = x + d * n by
      obtain ⟨k, rfl⟩ : ∃ k, n = k + 1 := ⟨n - 1, by omega⟩
      rw [Nat.add_sub_cancel, Nat.mul_succ]; omega, per_mod hp]
  by_cases hs : ∃ t, t < n ∧ S t = true
  · have hs' : ∃ t, t < n ∧ S' t = true := by
      obtain ⟨t, ht, hst⟩ := hs
      refine ⟨(t + d * (n - 1)) % n, Nat.mod_lt _ (by omega), ?_⟩
      rw [← per_m hp', back, hst]
    obtain ⟨G, e, ⟨a, ha⟩, hm⟩ := gap_char hn hp hs
    obtain ⟨G', e', ⟨a', ha'⟩, hm'⟩ := gap_char hn hp' hs'
    rw [e, e']
    have h1 : G' ≤ G := hm (a' + d) G' fun i hi => by
      have := ha' i hi
      rw [h] at this
      rw [show a' + d + i = a' + i + d by omega]; exact this
    have h2 : G ≤ G' := hm' (a + d * (n - 1)) G fun i hi => by
      rw [show a + d * (n - 1) + i = a + i + d * (n - 1) by omega, back]; exact ha i hi
    omega
  · have hn1 : ∀ t, t < n → S t = false := fun t ht => by
      cases hst : S t
      · rfl
      · exact absurd ⟨t, ht, hst⟩ hs
    rw [gap_none hn1, gap_none fun t ht => by rw [h, per_m hp]; exact hn1 _ (Nat.mod_lt _ (by omega))]
theorem cnt_shift1 (P : Nat → Bool) (n : Nat) : cnt (fun t => P (t + 1)) n + (bif P 0 then 1 else 0) = cnt P (n + 1) := by
  induction n with
  | zero => show 0 + _ = 0 + _; rfl
  | succ n ih =>
    unfold cnt
    rw [← ih]
    omega
theorem cnt_shift {P : Nat → Bool} {n : Nat} (hp : ∀ t, P (t + n) = P t) (d : Nat) : cnt (fun t => P (t + d)) n = cnt P n := by
  induction d with
  | zero => rfl
  | succ d ih =>
    have h1 : cnt (fun t => P (t + 1 + d)) n + (bif P (0 + d) then 1 else 0) = cnt (fun t => P (t + d)) (n + 1) := cnt_shift1 (fun t => P (t + d)) n
    have h2 : cnt (fun t => P (t + d)) (n + 1) = cnt (fun t => P (t + d)) n + (bif P (n + d) then 1 else 0) := rfl
    have h3 : P (n + d) = P (0 + d) := by rw [Nat.add_comm n d, hp, Nat.zero_add]
    rw [h2, h3] at h1
    have h4 : (fun t => P (t + (d + 1))) = fun t => P (t + 1 + d) := funext fun t => by
      rw [show t + (d + 1) = t + 1 + d by omega]
    rw [h4, ← ih]
    omega
/-! a house with all phases moved on -/
def SHI (d : Nat) (w w' : HouseV) : Prop := hR w = hR w' ∧ hG w = hG w' ∧ ∀ g, g < hG w → hP w g = hP w' g ∧ ∀ t, place w' g t = place w g (t + d)
theorem place_per {w : HouseV} {g : Nat} (hg : g < hG w) (t : Nat) : place w g (t + cyc w) = place w g t := by
  obtain ⟨k, hk⟩ : hP w g ∣ cyc w := cycTo_per hg
  unfold place
  rw [hk, Nat.add_mul_mod_self_left]
theorem seen_per {w : HouseV} (t : Nat) : seen w (t + cyc w) = seen w t := by
  unfold seen
  exact ors_congr fun g hg => by rw [place_per hg]
theorem Sg_per {w : HouseV} (r t : Nat) : Sg w r (t + cyc w) = Sg w r t := by
  unfold Sg
  rw [seen_per]
theorem shi_cyc {d : Nat} {w w' : HouseV} (h : SHI d w w') : cyc w' = cyc w := by
  show cycTo _ (hG w') = cycTo _ (hG w)
  rw [← h.2.1]
  exact cycTo_congr fun g hg => ((h.2.2 g hg).1).symm
theorem shi_seen {d : Nat} {w w' : HouseV} (h : SHI d w w') (t : Nat) : seen w' t = seen w (t + d) := by
  show ors _ (hG w') = ors _ (hG w)
  rw [← h.2.1]
  exact ors_congr fun g hg => by rw [(h.2.2 g hg).2 t]
theorem shi_worst {d : Nat} {w w' : HouseV} (hw : WFG w) (h : SHI d w w') : worst w' = worst w := by
  show maxTo _ (hR w') = maxTo _ (hR w)
  rw [← h.1]
  refine maxTo_congr fun r _ => ?_
  rw [shi_cyc h]
  refine gap_shift (d := d) (cyc_pos hw) (Sg_per r) fun t => ?_
  show (seen w' t).testBit r = (seen w (t + d)).testBit r
  rw [shi_seen h]
theorem shi_cross {d : Nat} {w w' : HouseV} (h : SHI d w w') : cross w' = cross w := by
  show crM _ (hG w') = crM _ (hG w)
  rw [← h.2.1, shi_cyc h]
  refine crM_congr fun a b ha hb => ?_
  have hb' : b < hG w := by omega
  rw [pair_mp, pair_mp]
  have e1 : meetB w' a b = fun t => meetB w a b (t + d) := funext fun t => by
    unfold meetB
    rw [(h.2.2 a ha).2, (h.2.2 b hb').2]
  have e2 : passB w' a b = fun t => passB w a b (t + d) := funext fun t => by
    unfold passB
    rw [e1, (h.2.2 a ha).2, (h.2.2 b hb').2, (h.2.2 a ha).2, (h.2.2 b hb').2, show t + 1 + d = t + d + 1 by omega]
  have p1 : ∀ t, meetB w a b (t + cyc w) = meetB w a b t := fun t => by
    unfold meetB
    rw [place_per ha, place_per hb']
  have p2 : ∀ t, passB w a b (t + cyc w) = passB w a b t := fun t => by
    unfold passB
    rw [p1, show t + cyc w + 1 = t + 1 + cyc w by omega, place_per ha, place_per hb', place_per ha, place_per hb']
  rw [e1, e2, cnt_shift p1, cnt_shift p2]
end SHIFT

