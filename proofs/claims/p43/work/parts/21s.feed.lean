section FEED
variable {K : KT} {T : TT} {t : ToksV} {l f e k : Nat} {v : HouseV}
theorem byte_I (y : Int32) : ∃ c : Nat, y &&& 255 = I (c : Int) ∧ c < 256 := by
  refine ⟨(y &&& 255).toBitVec.toNat, ?_, ?_⟩
  · rw [I_ofNat]
    apply Int32.toBitVec_inj.mp
    show (y &&& 255).toBitVec = BitVec.ofNat 32 (y &&& 255).toBitVec.toNat
    rw [BitVec.ofNat_toNat, BitVec.setWidth_eq]
  · have h : (y &&& 255).toBitVec = y.toBitVec &&& 255#32 := rfl
    rw [h, BitVec.toNat_and]
    have : y.toBitVec.toNat &&& (255#32).toNat ≤ (255#32).toNat := Nat.and_le_right
    have h2 : (255#32).toNat = 255 := rfl
    omega
/-- the byte j of x -/
def bt (x : Int32) (s : Int32) : Int32 := (x >>> (s &&& 31)) &&& 255
theorem feed_c {b : Nat} (h : Toks_filled t = I (b : Int)) (hb : b < 600) (x s : Int32) (hs : ¬ s < 0) (n : Nat) : ∃ t', Toks_addBytes_3 x (n + 1) s t = Toks_addBytes_3 x n (s + (-8)) t' ∧ Toks_filled t' = I ((b + 1 : Nat) : Int) ∧ Toks_bytes t' = upd (Toks_bytes t) b (bt x s) := by
  rw [Toks_addBytes_3, if_neg hs, h, if_neg (neg_f (by omega)), if_neg (show ¬ (600 : Int32) ≤ I (b : Int) from I_le_f (a := 600) (b := (b : Int)) (by omega) (by omega) (by omega)), gd_I (by omega) (by omega) (by omega), I_clamp b (by omega)]
  simp only [nmL_e]
  refine ⟨_, rfl, ?_, rfl⟩
  show Toks_filled (Toks_set_bytes t _) + 1 = _
  rw [show ∀ z, Toks_filled (Toks_set_bytes t z) = Toks_filled t from fun _ => rfl, h, I_succ]
/-- which word -/
def wd (x1 x2 x3 x4 x5 : Int32) (w : Nat) : Int32 := if w < 1 then x1 else if w < 2 then x2 else if w < 3 then x3 else if w < 4 then x4 else x5
theorem shf (w j : Nat) (hw : w < 5) (hj : j < 4) : (24 : Int32) - (8 * (I ((4 * w + j : Nat) : Int) - I ((4 * w + j : Nat) : Int) / 4 * 4)) = 24 - 8 * I (j : Int) := by
  rw [I4, I_rem (by omega) (by omega) (by omega) (by omega), show ((4 * w + j : Nat) : Int) % 4 = (j : Int) by omega]
theorem endReading_0 (g : GWV) (t : ToksV) : GW_endReading 0 g t = some (GW_set_lastErrorPosition g (-1), Toks_set_filled t 0) := rfl
end FEED

