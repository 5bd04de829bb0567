section OWNA
theorem cl0 : Int32.toNatClampNeg 0 = 0 := by decide
theorem cl1 : Int32.toNatClampNeg 1 = 1 := by decide
theorem cl2 : Int32.toNatClampNeg 2 = 2 := by decide
theorem cl3 : Int32.toNatClampNeg 3 = 3 := by decide
theorem cl4 : Int32.toNatClampNeg 4 = 4 := by decide
theorem cl5 : Int32.toNatClampNeg 5 = 5 := by decide
theorem gd_d {α : Type} {p : Prop} [Decidable p] {k : Option α} (h : p) : gd (decide p) k = k := gd_t (decide_eq_true h)
theorem I_a0 (a : Int) : I a + 0 = I a := by rw [I0, I_add, Int.add_zero]
theorem nI_e (n : Nat) : nI n = I (n : Int) := (I_ofNat n).symm
theorem L_div {a b : Int} (ha : 0 ≤ a) (ha2 : a ≤ 9000000000000000000) (hb : 0 < b) (hb2 : b ≤ 9000000000000000000) : L a / L b = L (a / b) := by
  apply Int64.toInt_inj.mp
  have hd : 0 ≤ a / b := Int.ediv_nonneg ha (by omega)
  have hd2 : a / b ≤ a := Int.ediv_le_self _ ha
  rw [Int64.toInt_div_of_ne_left, L_int (by omega) ha2, L_int (by omega) hb2, L_int (by omega) (by omega), Int.tdiv_eq_ediv_of_nonneg ha]
  intro h
  have h2 := congrArg Int64.toInt h
  rw [L_int (by omega) ha2, Int64.toInt_minValue] at h2
  omega
theorem L_rem {a b : Int} (ha : 0 ≤ a) (ha2 : a ≤ 9000000000000000000) (hb : 0 < b) (hb2 : b ≤ 9000000000000000000) : L a - L a / L b * L b = L (a % b) := by
  rw [L_div ha ha2 hb hb2, L_mul, L_sub, Int.emod_def, Int.mul_comm b]
theorem nzl_L {a : Int} (h1 : 0 < a) (h2 : a ≤ 9000000000000000000) : nzl (L a) = true := by
  unfold nzl
  exact decide_eq_true (by
    intro h
    have h3 := congrArg Int64.toInt h
    rw [L_int (by omega) h2] at h3
    have h4 : (0 : Int64).toInt = 0 := by decide
    omega)
/-! doors -/
def btC (A B : Nat → Nat) (a b d : Nat) : Bool := (decide (A d = a) && decide (B d = b)) || (decide (A d = b) && decide (B d = a))
def opC (A B : Nat → Nat) (O : Nat → Bool) (a b d : Nat) : Bool := O d && btC A B a b d
/-- the rows of the doors hold so many doors -/
def DC (o : OwnV) (nd : Nat) (D : RowsT) (n : Nat) (A B : Nat → Nat) (O : Nat → Bool) : Prop := Own_doors o = I (n : Int) ∧ nd = n ∧ D.1 = n ∧ ∀ d, d < n → D.2.1 d = 3 ∧ D.2.2 d 0 = I (A d : Int) ∧ D.2.2 d 1 = I (B d : Int) ∧ D.2.2 d 2 = I ((bif O d then 1 else 0 : Nat) : Int) ∧ A d < 12 ∧ B d < 12
section
variable {o : OwnV} {nd : Nat} {D : RowsT} {n : Nat} {A B : Nat → Nat} {O : Nat → Bool}
theorem oopen54 (h : DC o nd D n A B O) (hn : n ≤ 20) {a b k : Nat} (ha : a < 12) (hb : b < 12) (hk : k < n) (k5 : Int32 → Int32 → Option Int32) (c : Nat) : Own_open_54 (I (a : Int)) (I (b : Int)) o nd D k5 (I (k : Int)) (I (c : Int)) = k5 (I ((c + (if A k = b ∧ B k = a then 1 else 0) : Nat) : Int)) (I ((k + 1 : Nat) : Int)) := by
  obtain ⟨h1, h2, h3, h4⟩ := h
  obtain ⟨r1, r2, r3, r4, r5, r6⟩ := h4 k hk
  unfold Own_open_54
  rw [gd_I (by omega) (by omega) (by omega), I_clamp k (by omega), gd_d (by omega), gd_d (by omega), r1, gd_t (by decide), cl0, r2]
  by_cases c1 : A k = b
  · rw [if_pos (by rw [c1]), gd_t (by decide), cl1, r3]
    by_cases c2 : B k = a
    · rw [if_pos (by rw [c2]), if_pos ⟨c1, c2⟩, nmL_e, nmL_e, I_succ, I_succ]
    · rw [if_neg (I_ne (by omega) (by omega) (by omega) (by omega) (by omega)), if_neg (fun q => c2 q.2), nmL_e, nmL_e, I_succ, I_a0]
      rfl
  · rw [if_neg (I_ne (by omega) (by omega) (by omega) (by omega) (by omega)), if_neg (fun q => c1 q.1), nmL_e, nmL_e, I_succ, I_a0]
    rfl
theorem oopen_loop (h : DC o nd D n A B O) (hn : n ≤ 20) {a b : Nat} (ha : a < 12) (hb : b < 12) : ∀ (q k m : Nat), n = k + q → q < m → Own_open_5 (I (a : Int)) (I (b : Int)) o nd D m (I ((cnt (opC A B O a b) k : Nat) : Int)) (I (k : Int)) = some (I ((cnt (opC A B O a b) n : Nat) : Int)) := by
  have h0 := h
  obtain ⟨h1, h2, h3, h4⟩ := h
  intro q
  induction q with
  | zero =>
    intro k m hk hm
    obtain ⟨m, rfl⟩ : ∃ q, m = q + 1 := ⟨m - 1, by omega⟩
    rw [Own_open_5, h1, if_pos (I_le_t (by omega) (by omega) (by omega)), show k = n by omega]
  | succ q ih =>
    intro k m hk hm
    obtain ⟨m, rfl⟩ : ∃ q, m = q + 1 := ⟨m - 1, by omega⟩
    have hkn : k < n := by omega
    obtain ⟨r1, r2, r3, r4, r5, r6⟩ := h4 k hkn
    have hh := ih (k + 1) m (by omega) (by omega)
    rw [cnt] at hh
    have e54 := oopen54 h0 hn ha hb hkn
    rw [Own_open_5, h1, if_neg (I_le_f (by omega) (by omega) (by omega)), gd_I (by omega) (by omega) (by omega), I_clamp k (by omega), gd_d (by omega), gd_d (by omega), r1, gd_t (by decide), cl2, r4]
    cases hO : O k
    · have hp : opC A B O a b k = false := by unfold opC; rw [hO]; rfl
      rw [hp, bif_f, Nat.add_zero] at hh
      rw [if_neg (by decide), nmL_e, nmL_e, I_succ, I_a0]
      exact hh
    · rw [if_pos (by decide), gd_t (by decide), cl0, r2]
      by_cases c1 : A k = a
      · rw [if_pos (by rw [c1]), gd_t (by decide), cl1, r3]
        by_cases c2 : B k = b
        · have hp : opC A B O a b k = true := by unfold opC btC; rw [hO, decide_eq_true c1, decide_eq_true c2]; rfl
          rw [hp, bif_t] at hh
          rw [if_pos (by rw [c2]), nmL_e, nmL_e, I_succ, I_succ]
          exact hh
        · have hp : opC A B O a b k = decide (A k = b ∧ B k = a) := by
            unfold opC btC
            rw [hO, decide_eq_false c2, Bool.and_false, Bool.false_or, Bool.true_and, Bool.decide_and]
          rw [if_neg (I_ne (by omega) (by omega) (by omega) (by omega) (by omega)), e54]
          rw [hp] at hh
          by_cases c3 : A k = b ∧ B k = a
          · rw [decide_eq_true c3, bif_t] at hh
            rw [if_pos c3]
            exact hh
          · rw [decide_eq_false c3, bif_f] at hh
            rw [if_neg c3]
            exact hh
      · have hp : opC A B O a b k = decide (A k = b ∧ B k = a) := by
          unfold opC btC
          rw [hO, decide_eq_false c1, Bool.false_and, Bool.false_or, Bool.true_and, Bool.decide_and]
        rw [if_neg (I_ne (by omega) (by omega) (by omega) (by omega) (by omega)), e54]
        rw [hp] at hh
        by_cases c3 : A k = b ∧ B k = a
        · rw [decide_eq_true c3, bif_t] at hh
          rw [if_pos c3]
          exact hh
        · rw [decide_eq_false c3, bif_f] at hh
          rw [if_neg c3]
          exact hh
theorem oopen_s (h : DC o nd D n A B O) (hn : n ≤ 20) {a b : Nat} (ha : a < 12) (hb : b < 12) : Own_open (I (a : Int)) (I (b : Int)) o nd D = some (I ((cnt (opC A B O a b) n : Nat) : Int)) := by
  unfold Own_open
  exact oopen_loop h hn ha hb n 0 FU (by omega) (by unfold FU; omega)
theorem oopens_loop (h : DC o nd D n A B O) (hn : n ≤ 20) : ∀ (q k m : Nat), n = k + q → q < m → Own_opens_4 (-1) o nd D m (I ((cnt O k : Nat) : Int)) (I (k : Int)) = some (I ((cnt O n : Nat) : Int)) := by
  obtain ⟨h1, h2, h3, h4⟩ := h
  intro q
  induction q with
  | zero =>
    intro k m hk hm
    obtain ⟨m, rfl⟩ : ∃ q, m = q + 1 := ⟨m - 1, by omega⟩
    rw [Own_opens_4, h1, if_pos (I_le_t (by omega) (by omega) (by omega)), show k = n by omega]
  | succ q ih =>
    intro k m hk hm
    obtain ⟨m, rfl⟩ : ∃ q, m = q + 1 := ⟨m - 1, by omega⟩
    have hkn : k < n := by omega
    obtain ⟨r1, r2, r3, r4, r5, r6⟩ := h4 k hkn
    have hh := ih (k + 1) m (by omega) (by omega)
    rw [cnt] at hh
    rw [Own_opens_4, h1, if_neg (I_le_f (by omega) (by omega) (by omega)), if_pos (by decide)]
    unfold Own_opens_41
    rw [gd_I (by omega) (by omega) (by omega), I_clamp k (by omega), gd_d (by omega), gd_d (by omega), r1, gd_t (by decide), cl2, r4, nmL_e, nmL_e, I_succ, I_add]
    cases hO : O k
    · rw [hO] at hh; exact hh
    · rw [hO] at hh; exact hh
theorem oopens_s (h : DC o nd D n A B O) (hn : n ≤ 20) : Own_opens (-1) o nd D = some (I ((cnt O n : Nat) : Int)) := by
  unfold Own_opens
  exact oopens_loop h hn n 0 FU (by omega) (by unfold FU; omega)
end
/-! walks -/
theorem cycTo_iff {P : Nat → Nat} {c : Nat} : ∀ n, cycTo P n ∣ c ↔ ∀ g, g < n → P g ∣ c
  | 0 => ⟨fun _ g h => absurd h (Nat.not_lt_zero g), fun _ => Nat.one_dvd c⟩
  | n + 1 => by
    constructor
    · intro h g hg
      exact Nat.dvd_trans (cycTo_per hg) h
    · intro h
      exact Nat.lcm_dvd ((cycTo_iff n).mpr fun g hg => h g (by omega)) (h n (by omega))
/-- the rows of the walks hold so many walks -/
def WC (o : OwnV) (nw : Nat) (W : RowsT) (n : Nat) (P : Nat → Nat) (Wk : Nat → Nat → Nat) : Prop := Own_guards o = I (n : Int) ∧ nw = n ∧ W.1 = n ∧ ∀ g, g < n → W.2.1 g = P g ∧ 1 ≤ P g ∧ P g ≤ 10 ∧ ∀ s, s < P g → W.2.2 g s = I (Wk g s : Int) ∧ Wk g s < 12
section
variable {o : OwnV} {nw : Nat} {W : RowsT} {n : Nat} {P : Nat → Nat} {Wk : Nat → Nat → Nat}
theorem ocyc6 (h : WC o nw W n P Wk) (hn : n ≤ 4) {c : Nat} (hc : 1 ≤ c) (hc2 : c ≤ 100000) (k2 : Int32 → Option Int32) : ∀ (q g m : Nat) (f : Bool), n = g + q → q < m → (f = true → (∀ j, g ≤ j → j < n → P j ∣ c) → Own_cycle_6 o nw W (I (c : Int)) k2 m (b2i f) (I (g : Int)) = some (I (c : Int))) ∧ ((f = false ∨ ∃ j, g ≤ j ∧ j < n ∧ ¬ P j ∣ c) → Own_cycle_6 o nw W (I (c : Int)) k2 m (b2i f) (I (g : Int)) = k2 (I ((c + 1 : Nat) : Int))) := by
  obtain ⟨h1, h2, h3, h4⟩ := h
  intro q
  induction q with
  | zero =>
    intro g m f hk hm
    obtain ⟨m, rfl⟩ : ∃ q, m = q + 1 := ⟨m - 1, by omega⟩
    rw [Own_cycle_6, h1, if_pos (I_le_t (by omega) (by omega) (by omega))]
    constructor
    · intro hf _
      rw [hf, if_neg (by decide)]
    · intro hf
      rcases hf with hf | ⟨j, j1, j2, -⟩
      · rw [hf, if_pos (by decide), nmL_e, I_succ]
      · omega
  | succ q ih =>
    intro g m f hk hm
    obtain ⟨m, rfl⟩ : ∃ q, m = q + 1 := ⟨m - 1, by omega⟩
    have hg : g < n := by omega
    obtain ⟨r1, r2, r3, r4⟩ := h4 g hg
    have hmod : (c : Int) % (P g : Int) = ((c % P g : Nat) : Int) := (Int.natCast_emod c (P g)).symm
    have hml : c % P g < P g := Nat.mod_lt _ (by omega)
    rw [Own_cycle_6, h1, if_neg (I_le_f (by omega) (by omega) (by omega)), gd_I (by omega) (by omega) (by omega), I_clamp g (by omega), gd_d (by omega), gd_d (by omega), r1, nI_e, gd_t (nz_I (by omega) (by omega)), I_rem (by omega) (by omega) (by omega) (by omega), hmod]
    by_cases hd : P g ∣ c
    · have ih1 := ih (g + 1) m f (by omega) (by omega)
      rw [if_pos (by rw [Nat.mod_eq_zero_of_dvd hd]; rfl), nmL_e, nmL_e, I_succ, show b2i f &&& 1 = b2i f by cases f <;> decide]
      constructor
      · intro hf ha
        exact ih1.1 hf fun j j1 j2 => ha j (by omega) j2
      · intro hf
        apply ih1.2
        rcases hf with hf | ⟨j, j1, j2, j3⟩
        · exact Or.inl hf
        · have : j ≠ g := fun e => j3 (by rw [e]; exact hd)
          exact Or.inr ⟨j, by omega, j2, j3⟩
    · have ih1 := ih (g + 1) m false (by omega) (by omega)
      have h0 : c % P g ≠ 0 := fun e => hd (Nat.dvd_of_mod_eq_zero e)
      rw [if_neg (show ¬ I ((c % P g : Nat) : Int) = 0 from I_ne (b := 0) (by omega) (by omega) (by omega) (by omega) (by omega)), nmL_e, nmL_e, I_succ, show b2i f &&& 0 = b2i false by cases f <;> decide]
      exact ⟨fun _ ha => absurd (ha g (Nat.le_refl _) hg) hd, fun _ => ih1.2 (Or.inl rfl)⟩
theorem WC.per (h : WC o nw W n P Wk) : ∀ g, g < n → 1 ≤ P g ∧ P g ≤ 10 := fun g hg => ⟨(h.2.2.2 g hg).2.1, (h.2.2.2 g hg).2.2.1⟩
theorem ocyc_loop (h : WC o nw W n P Wk) (hn : n ≤ 4) : ∀ (q c m : Nat), cycTo P n = c + q → q < m → 1 ≤ c → Own_cycle_2 o nw W m (I (c : Int)) = some (I ((cycTo P n : Nat) : Int)) := by
  have hle := cycTo_le h.per
  intro q
  induction q with
  | zero =>
    intro c m hk hm hc
    obtain ⟨m, rfl⟩ : ∃ q, m = q + 1 := ⟨m - 1, by omega⟩
    have e : c = cycTo P n := by omega
    rw [Own_cycle_2, show (1 : Int32) = b2i true from rfl, I_zero, (ocyc6 h hn hc (by omega) _ n 0 FU true (by omega) (by unfold FU; omega)).1 rfl (fun j _ hj => by rw [e]; exact cycTo_per hj), e]
  | succ q ih =>
    intro c m hk hm hc
    obtain ⟨m, rfl⟩ : ∃ q, m = q + 1 := ⟨m - 1, by omega⟩
    have hne : ¬ ∀ g, g < n → P g ∣ c := fun hd => by
      have := Nat.le_of_dvd (by omega) ((cycTo_iff n).mpr hd)
      omega
    have hex : ∃ j, 0 ≤ j ∧ j < n ∧ ¬ P j ∣ c := by
      apply Classical.byContradiction
      intro hno
      exact hne fun g hg => Classical.byContradiction fun hd => hno ⟨g, Nat.zero_le _, hg, hd⟩
    rw [Own_cycle_2, show (1 : Int32) = b2i true from rfl, I_zero, (ocyc6 h hn hc (by omega) _ n 0 FU true (by omega) (by unfold FU; omega)).2 (Or.inr hex)]
    exact ih (c + 1) m (by omega) (by omega) (by omega)
theorem ocycle_s (h : WC o nw W n P Wk) (hn : n ≤ 4) : Own_cycle o nw W = some (I ((cycTo P n : Nat) : Int)) := by
  have hle := cycTo_le h.per
  have hp := cycTo_pos h.per
  unfold Own_cycle
  rw [show (1 : Int32) = I ((1 : Nat) : Int) from rfl]
  exact ocyc_loop h hn (cycTo P n - 1) 1 FU (by omega) (by unfold FU; omega) (by omega)
/-- the room of a guard at a minute, by phases of one's own -/
def plC (P : Nat → Nat) (Wk : Nat → Nat → Nat) (φ : Nat → Nat) (g t : Nat) : Nat := Wk g ((t + φ g) % P g)
theorem plC_lt (h : WC o nw W n P Wk) (φ : Nat → Nat) {g : Nat} (hg : g < n) (t : Nat) : plC P Wk φ g t < 12 := by
  obtain ⟨r1, r2, r3, r4⟩ := h.2.2.2 g hg
  exact (r4 _ (Nat.mod_lt _ (by omega))).2
theorem oat_s (h : WC o nw W n P Wk) (hn : n ≤ 4) {F : Nat → Int32} {φ : Nat → Nat} (hF : ∀ g, g < n → F g = I (φ g : Int) ∧ φ g < 100) {g t : Nat} (hg : g < n) (ht : t ≤ 2000000) : Own_at (I (g : Int)) (L (t : Int)) o nw W F = some (I (plC P Wk φ g t : Int)) := by
  obtain ⟨h1, h2, h3, h4⟩ := h
  obtain ⟨r1, r2, r3, r4⟩ := h4 g hg
  obtain ⟨f1, f2⟩ := hF g hg
  have hml : (t + φ g) % P g < P g := Nat.mod_lt _ (by omega)
  have hmod : ((t : Int) + (φ g : Int)) % (P g : Int) = (((t + φ g) % P g : Nat) : Int) := by rw [← Int.natCast_add, ← Int.natCast_emod]
  unfold Own_at
  rw [gd_I (by omega) (by omega) (by omega), I_clamp g (by omega), gd_d (by omega), gd_d (by omega), r1, nI_e, f1, L_of (by omega) (by omega), L_of (by omega) (by omega), gd_t (nzl_L (by omega) (by omega)), LI_add, L_rem (by omega) (by omega) (by omega) (by omega), hmod, I_of, gd_I (by omega) (by omega) (by omega), I_clamp _ (by omega), (r4 _ hml).1]
  rfl
theorem oin_loop (h : WC o nw W n P Wk) (hn : n ≤ 4) {F : Nat → Int32} {φ : Nat → Nat} (hF : ∀ g, g < n → F g = I (φ g : Int) ∧ φ g < 100) {r t : Nat} (hr : r < 12) (ht : t ≤ 2000000) : ∀ (q k m : Nat), n = k + q → q < m → Own_in_6 (I (r : Int)) (L (t : Int)) o nw W F m (I ((msk (fun g => decide (plC P Wk φ g t = r)) k : Nat) : Int)) (I (k : Int)) = some (I ((msk (fun g => decide (plC P Wk φ g t = r)) n : Nat) : Int)) := by
  have h0 := h
  obtain ⟨h1, h2, h3, h4⟩ := h
  intro q
  induction q with
  | zero =>
    intro k m hk hm
    obtain ⟨m, rfl⟩ : ∃ q, m = q + 1 := ⟨m - 1, by omega⟩
    rw [Own_in_6, h1, if_pos (I_le_t (by omega) (by omega) (by omega)), show k = n by omega]
  | succ q ih =>
    intro k m hk hm
    obtain ⟨m, rfl⟩ : ∃ q, m = q + 1 := ⟨m - 1, by omega⟩
    have hkn : k < n := by omega
    have hpl := plC_lt h0 φ hkn t
    have hh := ih (k + 1) m (by omega) (by omega)
    rw [msk] at hh
    rw [Own_in_6, h1, if_neg (I_le_f (by omega) (by omega) (by omega)), oat_s h0 hn hF hkn ht, bind_s]
    by_cases c : plC P Wk φ k t = r
    · rw [decide_eq_true c, bif_t] at hh
      rw [if_pos (by rw [c]), nmL_e, nmL_e, I_shl k (by omega), I_or, I_succ]
      exact hh
    · rw [decide_eq_false c, bif_f] at hh
      rw [if_neg (I_ne (by omega) (by omega) (by omega) (by omega) (by omega)), nmL_e, nmL_e, I_zero, I_or, I_succ]
      exact hh
theorem oin_s (h : WC o nw W n P Wk) (hn : n ≤ 4) {F : Nat → Int32} {φ : Nat → Nat} (hF : ∀ g, g < n → F g = I (φ g : Int) ∧ φ g < 100) {r t : Nat} (hr : r < 12) (ht : t ≤ 2000000) : Own_in (I (r : Int)) (L (t : Int)) o nw W F = some (I ((msk (fun g => decide (plC P Wk φ g t = r)) n : Nat) : Int)) := by
  unfold Own_in
  exact oin_loop h hn hF hr ht n 0 FU (by omega) (by unfold FU; omega)
end
end OWNA
