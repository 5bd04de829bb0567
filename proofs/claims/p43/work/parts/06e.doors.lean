section DOORS
theorem upd_e (f : Nat → Int32) (i : Nat) (x : Int32) (j : Nat) : upd f i x j = if j = i then x else f j := rfl
theorem cnt_pos {p : Nat → Bool} {n : Nat} : 0 < cnt p n ↔ ∃ i, i < n ∧ p i = true := by
  induction n with
  | zero => simp [cnt]
  | succ n ih =>
    unfold cnt
    constructor
    · intro h
      cases hp : p n
      · rw [hp, bif_f, Nat.add_zero] at h
        obtain ⟨i, hi, h2⟩ := ih.mp h
        exact ⟨i, by omega, h2⟩
      · exact ⟨n, by omega, hp⟩
    · rintro ⟨i, hi, h⟩
      by_cases hin : i = n
      · subst hin; rw [h, bif_t]; omega
      · have := ih.mpr ⟨i, by omega, h⟩
        omega
/-- is the door d open -/
def opn (v : HouseV) (d : Nat) : Bool := (hO v).testBit d
/-- is the door d between the rooms a and b -/
def btw (v : HouseV) (a b d : Nat) : Bool := (decide (hA v d = a) && decide (hB v d = b)) || (decide (hA v d = b) && decide (hB v d = a))
/-- what the door d adds to the rooms next to r -/
def dj (v : HouseV) (r d : Nat) : Nat := bif opn v d then ((if hA v d = r then 1 <<< hB v d else 0) ||| (if hB v d = r then 1 <<< hA v d else 0)) else 0
def jm (v : HouseV) (r : Nat) : Nat := ors (dj v r) (hD v)
def WFj (v : HouseV) : Prop := ∀ r, r < 12 → House_joined v r = I ((jm v r : Nat) : Int)
theorem tb_one (x s : Nat) : (1 <<< x).testBit s = decide (x = s) := by rw [Nat.one_shiftLeft, Nat.testBit_two_pow]
theorem dj_bit (v : HouseV) (r d s : Nat) : (dj v r d).testBit s = (opn v d && btw v r s d) := by
  unfold dj btw
  cases opn v d
  · simp
  · rw [bif_t, Nat.testBit_or, Bool.true_and]
    by_cases h1 : hA v d = r
    · by_cases h2 : hB v d = r
      · rw [if_pos h1, if_pos h2, tb_one, tb_one, decide_eq_true h1, decide_eq_true h2, Bool.true_and, Bool.and_true]
      · rw [if_pos h1, if_neg h2, tb_one, Nat.zero_testBit, decide_eq_true h1, decide_eq_false h2, Bool.true_and, Bool.and_false]
    · by_cases h2 : hB v d = r
      · rw [if_neg h1, if_pos h2, tb_one, Nat.zero_testBit, decide_eq_false h1, decide_eq_true h2, Bool.false_and, Bool.and_true]
      · rw [if_neg h1, if_neg h2, Nat.zero_testBit, decide_eq_false h1, decide_eq_false h2, Bool.false_and, Bool.and_false]
theorem jm_bit (v : HouseV) (r s : Nat) : (jm v r).testBit s = true ↔ ∃ d, d < hD v ∧ opn v d = true ∧ btw v r s d = true := by
  unfold jm
  rw [ors_bit]
  constructor
  · rintro ⟨d, hd, h⟩
    rw [dj_bit, Bool.and_eq_true] at h
    exact ⟨d, hd, h⟩
  · rintro ⟨d, hd, h⟩
    exact ⟨d, hd, by rw [dj_bit, Bool.and_eq_true]; exact h⟩
theorem dj_lt {v : HouseV} (hd : WFd v) {r d : Nat} (h : d < hD v) : dj v r d < 2 ^ hR v := by
  obtain ⟨-, a, -, b, -⟩ := hd d h
  unfold dj
  cases opn v d
  · exact Nat.two_pow_pos _
  · rw [bif_t]
    refine or_lt ?_ ?_
    · split
      · exact bit_lt b
      · exact Nat.two_pow_pos _
    · split
      · exact bit_lt a
      · exact Nat.two_pow_pos _
theorem jm_lt {v : HouseV} (hd : WFd v) (r : Nat) : jm v r < 2 ^ hR v := ors_lt fun d h => dj_lt hd h
theorem join_s {v : HouseV} (hn : WFn v) {a b : Nat} (ha : a < hR v) (hb : b < 31) : House_join (I (a : Int)) (I (b : Int)) v = some (House_set_joined v (upd (House_joined v) a (House_joined v a ||| I ((1 <<< b : Nat) : Int)))) := by
  have hR12 : hR v ≤ 12 := hn.2.2.1
  unfold House_join
  rw [hasRoom_s hn (by omega) (by omega), decide_eq_true (by omega), bind_s, bif_t, gd_I (by omega) (by omega) (by omega), nmL_e, I_clamp a (by omega), I_shl b hb]
theorem setOpen_loop {v : HouseV} (hn : WFn v) (hd : WFd v) {x1 : Int32} {x2 : Bool} : ∀ (m k n : Nat) (j : Nat → Int32), hD v = k + m → m < n → (∀ r, r < 12 → j r = I ((ors (dj v r) k : Nat) : Int)) → ∃ j', House_setOpen_39 x1 x2 n (I (k : Int)) (House_set_joined v j) = some (House_set_joined v j') ∧ ∀ r, r < 12 → j' r = I ((jm v r : Nat) : Int) := by
  have hR12 : hR v ≤ 12 := hn.2.2.1
  have hD20 : hD v ≤ 20 := hn.2.2.2.2.1
  have eD : ∀ j, House_doors (House_set_joined v j) = I (hD v) := fun j => hn.2.2.2.1
  intro m
  induction m with
  | zero =>
    intro k n j hk hm hj
    obtain ⟨n, rfl⟩ : ∃ q, n = q + 1 := ⟨n - 1, by omega⟩
    refine ⟨j, ?_, fun r hr => ?_⟩
    · rw [House_setOpen_39, eD, if_pos (I_le_t (by omega) (by omega) (by omega))]
    · rw [hj r hr, jm, hk, Nat.add_zero]
  | succ m ih =>
    intro k n j hk hm hj
    obtain ⟨n, rfl⟩ : ∃ q, n = q + 1 := ⟨n - 1, by omega⟩
    obtain ⟨e1, l1, e2, l2, ne⟩ := hd k (by omega)
    have hn' : WFn (House_set_joined v j) := hn
    rw [House_setOpen_39, eD, if_neg (I_le_f (by omega) (by omega) (by omega)), I20, if_neg (I_le_f (by omega) (by omega) (by omega)), isOpen_s hn' (by omega), bind_s, show (hO (House_set_joined v j)).testBit k = opn v k from rfl]
    cases ho : opn v k
    · rw [bif_f, nmL_e, I_succ]
      refine ih (k + 1) n j (by omega) (by omega) (fun r hr => ?_)
      rw [hj r hr, ors, dj, ho, bif_f, Nat.or_zero]
    · rw [bif_t, gd_I (by omega) (by omega) (by omega), I_clamp k (by omega)]
      rw [show House_doorFirst (House_set_joined v j) k = I (hA v k) from e1, show House_doorSecond (House_set_joined v j) k = I (hB v k) from e2, join_s hn' l1 (by omega), bind_s]
      generalize hj1 : upd (House_joined (House_set_joined v j)) (hA v k) (House_joined (House_set_joined v j) (hA v k) ||| I ((1 <<< hB v k : Nat) : Int)) = j1
      have hn1 : WFn (House_set_joined (House_set_joined v j) j1) := hn
      rw [show House_doorFirst (House_set_joined (House_set_joined v j) j1) k = I (hA v k) from e1, show House_doorSecond (House_set_joined (House_set_joined v j) j1) k = I (hB v k) from e2, join_s hn1 l2 (by omega), bind_s, nmL_e, I_succ]
      refine ih (k + 1) n _ (by omega) (by omega) (fun r hr => ?_)
      show upd j1 (hB v k) (j1 (hB v k) ||| _) r = _
      have ej1 : ∀ q, j1 q = if q = hA v k then j (hA v k) ||| I ((1 <<< hB v k : Nat) : Int) else j q := fun q => by rw [← hj1]; rfl
      rw [upd_e, ors, dj, ho, bif_t]
      by_cases h2 : r = hB v k
      · subst h2
        rw [if_pos rfl, ej1, if_neg (fun h => ne h.symm), if_neg (fun h => ne h), if_pos rfl, hj _ hr, I_or, Nat.zero_or]
      · rw [if_neg h2, ej1]
        by_cases h1 : r = hA v k
        · subst h1
          rw [if_pos rfl, if_pos rfl, if_neg (fun h => h2 h.symm), hj _ hr, I_or, Nat.or_zero]
        · rw [if_neg h1, if_neg (fun h => h1 h.symm), if_neg (fun h => h2 h.symm), hj _ hr, Nat.or_zero, Nat.or_zero]
theorem fill_loop {x : Int32} {N : Nat} (hN : N ≤ 100000) : ∀ (m k n : Nat) (f : Nat → Int32), N = k + m → m < n → (∀ r, r < k → f r = x) → ∃ f', J_fill_5 x N (I (N : Int)) n (I (k : Int)) f = some f' ∧ ∀ r, r < N → f' r = x := by
  intro m
  induction m with
  | zero =>
    intro k n f hk hm hf
    obtain ⟨n, rfl⟩ : ∃ q, n = q + 1 := ⟨n - 1, by omega⟩
    exact ⟨f, by rw [J_fill_5, if_pos (I_le_t (by omega) (by omega) (by omega))], fun r hr => hf r (by omega)⟩
  | succ m ih =>
    intro k n f hk hm hf
    obtain ⟨n, rfl⟩ : ∃ q, n = q + 1 := ⟨n - 1, by omega⟩
    rw [J_fill_5, if_neg (I_le_f (by omega) (by omega) (by omega)), gd_I (by omega) (by omega) (by omega), nmL_e, nmL_e, I_succ, I_clamp k (by omega)]
    refine ih (k + 1) n _ (by omega) (by omega) (fun r hr => ?_)
    rw [upd_e]
    by_cases h : r = k
    · rw [if_pos h]
    · rw [if_neg h]; exact hf r (by omega)
theorem fill_s {x : Int32} {N : Nat} (hN : N ≤ 100000) (f : Nat → Int32) : ∃ f', J_fill x N f = some f' ∧ ∀ r, r < N → f' r = x := by
  unfold J_fill
  rw [nmL_e]
  exact fill_loop hN N 0 FU f (by omega) (by unfold FU; omega) (fun r hr => by omega)
/-- opening or closing a door -/
theorem setOpen_s {v : HouseV} (hn : WFn v) (hd : WFd v) {d : Nat} (hdl : d < hD v) (b : Bool) : ∃ j', House_setOpen (I (d : Int)) b v = some (House_set_joined (House_set_openDoors v (I ((bif b then hO v ||| 1 <<< d else sdf (hO v) (1 <<< d) : Nat) : Int))) j') ∧ WFj (House_set_joined (House_set_openDoors v (I ((bif b then hO v ||| 1 <<< d else sdf (hO v) (1 <<< d) : Nat) : Int))) j') := by
  have hD20 : hD v ≤ 20 := hn.2.2.2.2.1
  have eO : House_openDoors v = I (hO v) := hn.2.2.2.2.2.2.2.2.2.1
  have hOl : hO v < 2 ^ hD v := hn.2.2.2.2.2.2.2.2.2.2
  have key : ∀ o : Nat, o < 2 ^ hD v → ∃ j', House_setOpen_26 (I (d : Int)) b (I (o : Int)) v = some (House_set_joined (House_set_openDoors v (I (o : Int))) j') ∧ WFj (House_set_joined (House_set_openDoors v (I (o : Int))) j') := by
    intro o ho
    have hob : o < 2147483648 := Nat.lt_of_lt_of_le ho (Nat.le_trans (two_pow_le (by omega)) (by decide))
    have hh : hO (House_set_openDoors v (I (o : Int))) = o := I_clamp o hob
    unfold House_setOpen_26
    rw [nmL_e]
    obtain ⟨f', e, hf⟩ := fill_s (x := 0) (N := 12) (by decide) (House_joined (House_set_openDoors v (I (o : Int))))
    rw [e, bind_s, nmL_e]
    have hn' : WFn (House_set_openDoors v (I (o : Int))) := ⟨hn.1, hn.2.1, hn.2.2.1, hn.2.2.2.1, hn.2.2.2.2.1, hn.2.2.2.2.2.1, hn.2.2.2.2.2.2.1, hn.2.2.2.2.2.2.2.1, hn.2.2.2.2.2.2.2.2.1, by rw [hh]; rfl, by rw [hh]; exact ho⟩
    obtain ⟨j', e2, h2⟩ := setOpen_loop hn' hd (x1 := I (d : Int)) (x2 := b) (hD v) 0 FU f' (by show hD v = _; omega) (by unfold FU; omega) (fun r hr => hf r hr)
    exact ⟨j', e2, fun r hr => h2 r hr⟩
  unfold House_setOpen
  cases b
  · rw [bif_f, eO, I_shl d (by omega), I_andn]
    exact key _ (Nat.lt_of_le_of_lt (sdf_le _ _) hOl)
  · rw [bif_t, eO, I_shl d (by omega), I_or]
    exact key _ (or_lt hOl (bit_lt hdl))
theorem areJoined_s {v : HouseV} (hn : WFn v) (hd : WFd v) (hj : WFj v) {a b : Nat} (ha : a < hR v) (hb : b < 32) : House_areJoined (I (a : Int)) (I (b : Int)) v = some ((jm v a).testBit b) := by
  have hR12 : hR v ≤ 12 := hn.2.2.1
  have hl := jm_lt hd a
  unfold House_areJoined
  rw [hasRoom_s hn (by omega) (by omega), decide_eq_true (by omega), bind_s, bif_t, gd_I (by omega) (by omega) (by omega), I_clamp a (by omega), hj a (by omega), gwhas_s (Nat.lt_of_lt_of_le hl (Nat.le_trans (two_pow_le (by omega)) (by decide))) hb, bind_s]
  cases (jm v a).testBit b <;> rfl
/-! the model's doors -/
theorem joined_iff (v : HouseV) (a b : Nat) : (jm v a).testBit b = decide (0 < cnt (fun d => opn v d && btw v a b d) (hD v)) := by
  rw [Bool.eq_iff_iff, jm_bit, decide_eq_true_iff, cnt_pos]
  constructor
  · rintro ⟨d, h1, h2, h3⟩
    exact ⟨d, h1, by rw [h2, h3]; rfl⟩
  · rintro ⟨d, h1, h2⟩
    rw [Bool.and_eq_true] at h2
    exact ⟨d, h1, h2⟩
end DOORS

