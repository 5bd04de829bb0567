section WWe
def b2i (b : Bool) : Int32 := match b with | true => 1 | false => 0
theorem nar_b (b : Bool) : narrow .boolean (.int (b2i b)) = .int (b2i b) := by cases b <;> decide
theorem fits_b (b : Bool) : fits .boolean (.int (b2i b)) = true := by cases b <;> decide
theorem b2i_0 {b : Bool} : b2i b = 0 ↔ b = false := by cases b <;> decide
theorem b2i_n0 {b : Bool} : ¬ b2i b = 0 ↔ b = true := by cases b <;> decide
/-- an index in its array -/
def inB (i : Int32) (n : Nat) : Bool := !(decide (i < 0) || decide (n ≤ i.toNatClampNeg))
theorem inB_vp {i : Int32} {n : Nat} (h : inB i n = true) : vp_in i n := by
  simp only [inB, Bool.not_eq_true', Bool.or_eq_false_iff, decide_eq_false_iff_not] at h
  exact fun q => q.elim h.1 h.2
def nz (y : Int32) : Bool := decide (y ≠ 0)
theorem nz_ne {y : Int32} (h : nz y = true) : ¬ y = 0 := of_decide_eq_true h
/-- a test that must hold -/
def gd {α : Type} (b : Bool) (k : Option α) : Option α := match b with | true => k | false => none
theorem gdE {α : Type} {b : Bool} {k : Option α} {r : α} (h : gd b k = some r) : b = true ∧ k = some r := by
  cases b with
  | true => exact ⟨rfl, h⟩
  | false => cases h
/-- a name -/
def nmL {α β : Type} (v : α) (k : α → Option β) : Option β := k v
theorem ltE {α β : Type} {v y : α} {k : α → Option β} {r : β} (e : y = v) (h : nmL v k = some r) : k y = some r := by rw [e]; exact h
def asB {β : Type} (t : Int32) (k : Bool → Option β) : Option β := if t = 0 then k false else if t = 1 then k true else none
theorem asBE {β : Type} {t : Int32} {k : Bool → Option β} {r : β} (h : asB t k = some r) : ∃ b, t = b2i b ∧ k b = some r := by
  unfold asB at h
  by_cases h0 : t = 0
  · rw [if_pos h0] at h; exact ⟨false, h0, h⟩
  · rw [if_neg h0] at h
    by_cases h1 : t = 1
    · rw [if_pos h1] at h; exact ⟨true, h1, h⟩
    · rw [if_neg h1] at h; cases h
theorem bdE {α β : Type} {o : Option α} {k : α → Option β} {r : β} (h : Option.bind o k = some r) : ∃ v, o = some v ∧ k v = some r := by
  cases o with
  | none => cases h
  | some v => exact ⟨v, rfl, h⟩
theorem ifT {α : Type} {c : Prop} [Decidable c] {x y : Option α} {r : α} (h : c) (hf : (if c then x else y) = some r) : x = some r := by rw [if_pos h] at hf; exact hf
theorem ifF {α : Type} {c : Prop} [Decidable c] {x y : Option α} {r : α} (h : ¬ c) (hf : (if c then x else y) = some r) : y = some r := by rw [if_neg h] at hf; exact hf
theorem btE {α : Type} {b : Bool} {x y : Option α} {r : α} (h : b = true) (hf : (bif b then x else y) = some r) : x = some r := by rw [h] at hf; exact hf
theorem bfE {α : Type} {b : Bool} {x y : Option α} {r : α} (h : b = false) (hf : (bif b then x else y) = some r) : y = some r := by rw [h] at hf; exact hf
/-- rounds that no loop reaches -/
def FU : Nat := 200000
/-- a group of one int array -/
def wArr (E : Ex) (q n : Nat) (f : Nat → Int32) : va_W := [(q, .inl (eI E, n, .inl f))]
theorem q_Arr {E : Ex} {q n : Nat} {f : Nat → Int32} : (wArr E q n f)[0]? = some (q, .inl (eI E, n, .inl f)) := rfl
theorem s_Arr {E : Ex} {q n : Nat} {f x : Nat → Int32} : (wArr E q n f).set 0 (q, .inl (eI E, n, .inl x)) = wArr E q n x := rfl
variable {E : Ex} {K : Kx} {cc : ByteArray} {nL : Nat} {ret : Option FieldType} {own : String} {Ts : List Cond} {rm : Room} {cells slots : Nat} {Q : State → Prop} {pc : Nat} {lv : List (Nat × Value)} {st : List Value} {gs : List va_W}
theorem ww_topi {x : Int32} (k : ∀ y : Int32, y = x → WW E K cells slots Q pc lv (.int y :: st) gs) : WW E K cells slots Q pc lv (.int x :: st) gs := k x rfl
theorem ww_st {st' : List Value} (h : st = st') (kk : WW E K cells slots Q pc lv st' gs) : WW E K cells slots Q pc lv st gs := h ▸ kk
theorem ww_regr {gs' : List va_W} (h : gs.flatten = gs'.flatten) (kk : WW E K cells slots Q pc lv st gs') : WW E K cells slots Q pc lv st gs := by
  obtain ⟨p, e, R, s, m, args, below, meth, c, A⟩ := K
  intro H locs ls hP hD hS hl
  exact kk H locs ls (by rw [← h]; exact hP) (by rw [← h]; exact hD) hS hl
theorem ww_if_eqB (C : Cx E K cc nL ret own Ts rm) {b : Bool} {off : Int} {tgt : Nat} (hd : decode cc pc = .ok (.ifCond .eq off, 3)) (ht : (pc : Int) + off = (tgt : Int)) (kt : b = false → WW E K cells slots Q tgt lv st gs) (kf : b = true → WW E K cells slots Q (pc + 3) lv st gs) : WW E K cells slots Q pc lv (.int (b2i b) :: st) gs :=
  ww_if_eq C hd ht (fun h => kt (b2i_0.mp h)) (fun h => kf (b2i_n0.mp h))
theorem ww_if_neB (C : Cx E K cc nL ret own Ts rm) {b : Bool} {off : Int} {tgt : Nat} (hd : decode cc pc = .ok (.ifCond .ne off, 3)) (ht : (pc : Int) + off = (tgt : Int)) (kt : b = true → WW E K cells slots Q tgt lv st gs) (kf : b = false → WW E K cells slots Q (pc + 3) lv st gs) : WW E K cells slots Q pc lv (.int (b2i b) :: st) gs :=
  ww_if_ne C hd ht (fun h => kt (b2i_n0.mp h)) (fun h => kf (b2i_0.mp h))
end WWe
