section STEP
variable {K : KT} {T : TT} {t : ToksV} {l f e k g : Nat} {v : HouseV}
def go (v : HouseV) (a b : Nat) : Bool := decide (a = b) || (jm v a).testBit b
theorem canGo_s (b : BW v g) {a c : Nat} (ha : a < hR v) (hc : c < hR v) : House_canGo (I (a : Int)) (I (c : Int)) v = some (go v a c) := by
  obtain ⟨hn, hd, hj, -⟩ := b
  have hR12 : hR v ≤ 12 := hn.2.2.1
  unfold House_canGo go
  rw [Im1, if_neg (I_ne (by omega) (by omega) (by omega) (by omega) (by omega))]
  by_cases h : a = c
  · rw [if_pos (by rw [h]), decide_eq_true h, Bool.true_or]
  · have hl := jm_lt hd a
    rw [if_neg (I_ne (by omega) (by omega) (by omega) (by omega) (by omega)), decide_eq_false h, Bool.false_or, hasRoom_s hn (by omega) (by omega), decide_eq_true (by omega), bind_s, bif_t, gd_I (by omega) (by omega) (by omega), I_clamp a (by omega), hj a (by omega), gwhas_s (Nat.lt_of_lt_of_le hl (Nat.le_trans (two_pow_le (by omega)) (by decide))) (by omega), bind_s]
    cases (jm v a).testBit c <;> rfl
theorem canGo_n (x : Int32) : House_canGo (-1) x v = some true := by
  unfold House_canGo
  rw [if_pos rfl]
theorem roomsC (hn : WFn v) : House_rooms v - 1 = I ((hR v : Int) - 1) := by rw [hn.1, I1, I_sub]
theorem stepCode_nc {p : Int32} (h : Toks_numberCode 0 (House_rooms v - 1) t = some p) (hp : ¬ p = 0) (x : Int32) : HRead_stepCode x t v = some p := by
  unfold HRead_stepCode
  rw [h, bind_s, if_neg hp]
end STEP

