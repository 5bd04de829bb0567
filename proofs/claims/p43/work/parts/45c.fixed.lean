section FIXX
variable {g : GWV} {t : ToksV} {w : Nat → Int32} {T : List Nat} {v u : HouseV} {Φ Ψ : Nat → HouseV} {ls c : Nat} {y : HistV} {e U : Nat → HouseV} {s : SightV} {nR nD nG : Nat} {A B : Nat → Nat} {O : Nat → Bool} {Lm P φ : Nat → Nat} {Wk : Nat → Nat → Nat}
def fA (d : Nat) : Nat := d
def fB (d : Nat) : Nat := d + 1
def fO (_ : Nat) : Bool := true
def fL (r : Nat) : Nat := if r = 2 then 1 else 99
def fP (q : Nat) : Nat := if q = 0 then 4 else 2
def fφ (q : Nat) : Nat := if q = 0 then 0 else 1
def fW (q s : Nat) : Nat := if q = 0 then (if s = 0 then 0 else if s = 1 then 1 else if s = 2 then 2 else 1) else (if s = 0 then 2 else 1)
/-- the first house's text -/
def fT : List Nat := txHouse ++ (32 :: (dgt 3 ++ (59 :: (dT fA fB fO 0 2 ++ (limT 2 1 ++ gT fP fφ fW 0 2)))))
theorem s25 : stL 25 = fT.map fun b : Nat => I (b : Int) := by decide +kernel
theorem fT_b : ∀ b ∈ fT, b < 128 := by decide +kernel
theorem fT_len : fT.length ≤ 400 := by decide +kernel
theorem fixed_read (hat : AT t T fT) (d : HouseV) : ∃ t0 t' v', Toks_advance t = some t0 ∧ HRead_readHouse t0 d = some (0, t', v') ∧ CON v' 3 2 2 fA fB fO fL fP fφ fW := by
  have g3 : Good (gT fP fφ fW 0 2) := by
    have := gT_good (P := fP) (φ := fφ) (Wk := fW) (R := []) (Or.inl rfl) 0 2
    rw [List.append_nil] at this
    exact this
  have eL : limT 2 1 ++ gT fP fφ fW 0 2 = txLimit ++ (32 :: (dgt 2 ++ (32 :: (dgt 1 ++ (59 :: gT fP fφ fW 0 2))))) := by
    unfold limT
    simp only [List.append_assoc, List.cons_append, List.nil_append]
  have g2 : Good (limT 2 1 ++ gT fP fφ fW 0 2) := Or.inr ⟨_, _, eL, wd_limit, st_b (by omega)⟩
  have g1 := dT_good (A := fA) (B := fB) (O := fO) g2 0 2
  unfold fT at hat
  obtain ⟨t0, e0, r0⟩ := adv_w wd_house.1 hat wd_house.2.1 (st_b (by omega)) wd_house.2.2
  obtain ⟨t1, e1, r1⟩ := adv_bn (by omega) r0.rest (st_s (by omega))
  obtain ⟨t2, e2, r2⟩ := adv_s r1.rest
  obtain ⟨t3, e3, r3⟩ := semi_h r2 g1
  obtain ⟨w, e4, c4⟩ := con_begin (a := 3) (A := fA) (B := fB) (O := fO) (P := fP) (φ := fφ) (Wk := fW) (by omega) (by omega) d
  have q1 : Toks_numberCode 1 12 t1 = some 0 := numberCode_t (lo := 1) (hi := 12) r1 (by omega) (by omega) (by omega) (by omega)
  obtain ⟨m, hm⟩ : ∃ m, FU = m + 1 + 2 + 1 + 2 := ⟨FU - 6, by unfold FU; omega⟩
  obtain ⟨t4, v4, e5, r4, c5⟩ := doors_loop (T := T) (nD := 2) (by omega) (fun d hd => by
    obtain rfl | rfl : d = 0 ∨ d = 1 := by omega
    · exact ⟨by decide, by decide, by decide⟩
    · exact ⟨by decide, by decide, by decide⟩) g2 2 0 0 (m + 1 + 2 + 1) t3 w (by omega) (by omega) c4 r3
  rw [eL] at r4
  have hrd := hd_w r4 wd_limit (st_b (by omega))
  obtain ⟨t5, e6, r5⟩ := clause_l hrd g3 c5.1.1.1 (by rw [c5.2.2.1]; omega) (by omega)
  have c6 := con_limit c5 (r := 2) (a := 1) (by omega) (by omega)
  have c6' : CON (House_set_limits v4 (upd (House_limits v4) 2 (I ((1 : Nat) : Int)))) 3 2 0 fA fB fO fL fP fφ fW := con_L c6 fun r _ => rfl
  have r5' : HD t5 T (gT fP fφ fW 0 2 ++ []) := by rw [List.append_nil]; exact r5
  obtain ⟨t6, v6, e7, r6, c7⟩ := guards_loop (T := T) (nG := 2) (by omega) (fun q hq => by
    obtain rfl | rfl : q = 0 ∨ q = 1 := by omega
    · exact ⟨by decide, by decide, by decide, by decide⟩
    · exact ⟨by decide, by decide, by decide, by decide⟩) (fun v k hc q hq i hi => go4_go hc.2.2.2.1 hc.2.2.2.2.1 (by
      obtain rfl | rfl : q = 0 ∨ q = 1 := by omega
      · have hi4 : i < 4 := hi
        obtain rfl | rfl | rfl | rfl : i = 0 ∨ i = 1 ∨ i = 2 ∨ i = 3 := by omega
        · exact Or.inr (by decide)
        · exact Or.inr (by decide)
        · exact Or.inr (by decide)
        · exact Or.inr (by decide)
      · have hi2 : i < 2 := hi
        obtain rfl | rfl : i = 0 ∨ i = 1 := by omega
        · exact Or.inr (by decide)
        · exact Or.inr (by decide))) (Or.inl rfl) 2 0 (0 + 2 + 1) (m + 1) t5 _ (by omega) (by omega) c6' r5'
  refine ⟨t0, t6, v6, e0, ?_, c7⟩
  have e8 : HRead_readHouse_63 (m + 1) 0 (I ((0 + 2 + 1 + 2 : Nat) : Int)) t6 v6 = some (0, t6, v6) := by
    rw [HRead_readHouse_63, if_neg (show ¬ (600 : Int32) ≤ I ((0 + 2 + 1 + 2 : Nat) : Int) from I_le_f (a := 600) (by omega) (by omega) (by omega)), if_pos rfl, isEnd_t (hd_e r6), bind_s, bif_t]
  have eall : HRead_readHouse_63 FU 0 (I ((0 : Nat) : Int)) t3 w = some (0, t6, v6) := by
    rw [hm, e5, h63_step hrd e6 (by omega), e7, e8]
  unfold HRead_readHouse
  rw [isWord_t (by decide) s9 r0, bind_s, bif_t, e1, bind_s, q1, bind_s, if_pos rfl, number_is r1, e4, bind_s, e2, bind_s, e3, bind_s]
  exact eall
/-- a house that is told from a text is loaded -/
theorem load_f {f : Nat} (hrd : ∀ t, AT t T T → ∃ t0 t' v', Toks_advance t = some t0 ∧ HRead_readHouse t0 u = some (0, t', v') ∧ CON v' nR nD nG A B O Lm P φ Wk) (hf : Toks_filled t = I (f : Int)) (hl : T.length ≤ 400) (hlf : T.length ≤ f) (hf6 : f ≤ 600) (hb : ∀ q, byq T q < 128) (hy : ∀ q, q < T.length → Toks_bytes t q = I (byq T q : Int)) (hls : GW_lastStamp g = I (ls : Int)) (hh : HQ y e c U) (v : HouseV) (Φ Ψ : Nat → HouseV) : ∃ g' v' d' y' t' Φ' Ψ', GW_load (I (T.length : Int)) g v u y t = some (I (nR : Int), g', v', d', y', t') ∧ GW_lastStamp g' = I ((ls + 1 : Nat) : Int) ∧ (∀ p, p ≤ ls → Φ' p = Φ p) ∧ (∀ p, p ≤ ls → Ψ' p = Ψ p) ∧ JX Φ' Ψ' (ls + 1) v' ∧ CON v' nR nD nG A B O Lm P φ Wk ∧ HQ y' e 0 U ∧ Toks_filled t' = 0 := by
  obtain ⟨b1, b2⟩ := begin_q (f := f) (T := T) (by omega) hb hy
  obtain ⟨t0, t1, v1, a1, a2, a3⟩ := hrd _ b2
  obtain ⟨w1, c1, c2⟩ := copyFrom_s v v1
  have k1 := con_hc c2 a3
  have hls2 : GW_lastStamp (GW_set_lastErrorPosition g (-1)) = I (ls : Int) := hls
  obtain ⟨g', u', Φ', Ψ', m1, m2, m3, m4, m5, mr, n1, n2, n3, n4, n5, n6, n7, n8, n9, n10, n11⟩ := walks_q k1.1 hls2 Φ Ψ
  obtain ⟨y', q1, q2⟩ := forget_q hh
  have k2 := con_eq k1 m5.2 n1 n2 n3 n4 n5 n6 n7 n8 n9 n10 n11
  refine ⟨g', u', v1, y', Toks_set_filled t1 0, Φ', Ψ', ?_, m2, m3, m4, m5, k2, q2, rfl⟩
  have hRu : House_rooms u' = I (nR : Int) := by rw [k2.1.1.1.1, k2.2.2.1]
  unfold GW_load
  rw [hf, show (0 : Int32) = I 0 from rfl, needRange_o (by omega) (by omega) (by omega) (by omega), bind_s, b1, a1, bind_s, bind_s, a2, bind_s]
  unfold GW_endReading
  dsimp only
  rw [if_pos rfl, nmL_e, nmL_e, bind_s, if_pos (show (0 : Int32) = I 0 from rfl), c1, bind_s]
  dsimp only
  rw [m1, bind_s, q1, bind_s]
  dsimp only
  rw [hRu]
  rfl
/-- the first house -/
def vF : HouseV := House_set_openDoors (House_set_doorSecond (House_set_doorFirst (House_set_doors (House_set_walks (House_set_phases (House_set_periods (House_set_guards (House_set_rooms House0 3) 2) (fun q => I (fP q : Int))) (fun q => I (fφ q : Int))) (fun i => I (fW (i / 10) (i % 10) : Int))) 2) (fun d => I (fA d : Int))) (fun d => I (fB d : Int))) 3
theorem jm_eq (h1 : hD u = hD v) (h2 : ∀ d, d < hD v → hA u d = hA v d ∧ hB u d = hB v d ∧ opn u d = opn v d) (r : Nat) : jm u r = jm v r := by
  unfold jm
  rw [h1]
  refine ors_congr fun d hd => ?_
  obtain ⟨z1, z2, z3⟩ := h2 d hd
  unfold dj
  rw [z1, z2, z3]
theorem f_sw (hc : CON v 3 2 2 fA fB fO fL fP fφ fW) : SW v vF := by
  obtain ⟨hx, eM, eR, eD, dd, eG, gg, ll⟩ := hc
  refine ⟨eR.trans (show 3 = hR vF by decide), eG.trans (show 2 = hG vF by decide), fun q hq => ?_⟩
  obtain ⟨z1, z2, z3⟩ := gg q (by omega)
  have hp : hP vF q = fP q ∧ hF vF q = fφ q ∧ ∀ i, i < fP q → hW vF q i = fW q i := by
    obtain rfl | rfl : q = 0 ∨ q = 1 := by omega
    · exact ⟨by decide, by decide, by decide⟩
    · exact ⟨by decide, by decide, by decide⟩
  have h1 : 1 ≤ fP q := by
    obtain rfl | rfl : q = 0 ∨ q = 1 := by omega
    · decide
    · decide
  refine ⟨z1.trans hp.1.symm, fun t => ?_⟩
  unfold place
  rw [z1, z2, hp.1, hp.2.1, z3 _ (Nat.mod_lt _ (by omega)), hp.2.2 _ (Nat.mod_lt _ (by omega))]
theorem f_jm (hc : CON v 3 2 2 fA fB fO fL fP fφ fW) (r : Nat) : jm v r = jm vF r := by
  obtain ⟨hx, eM, eR, eD, dd, eG, gg, ll⟩ := hc
  refine jm_eq (eD.trans (show 2 = hD vF by decide)) (fun d hd => ?_) r
  obtain ⟨z1, z2, z3⟩ := dd d hd
  rw [z1, z2, z3]
  have hd2 : d < 2 := hd
  obtain rfl | rfl : d = 0 ∨ d = 1 := by omega
  · exact ⟨by decide, by decide, by decide⟩
  · exact ⟨by decide, by decide, by decide⟩
end FIXX
