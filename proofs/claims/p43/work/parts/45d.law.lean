section LAWD
variable {L : Nat} {xs : Nat → Int32} {g : GWV} {v u : HouseV} {o : OwnV} {nd nr nw : Nat} {D Rw W : RowsT} {F : Nat → Int32} {nR nD nG : Nat} {A B : Nat → Nat} {O : Nat → Bool} {Lm P φ : Nat → Nat} {Wk : Nat → Nat → Nat}
theorem f_barr (hs : SW v u) (t r : Nat) : barr v t r = barr u t r := by
  unfold barr
  rw [← hs.2.1]
  exact ors_congr fun q hq => by rw [(hs.2.2 q hq).2 (t + 1), (hs.2.2 q hq).2 t]
theorem f_nx (hs : SW v u) (hj : ∀ r, jm v r = jm u r) (t A : Nat) : nx v t A = nx u t A := by
  unfold nx
  have e : ors (fun r => bif A.testBit r then sdf (jm v r) (barr v t r) else 0) (hR v) = ors (fun r => bif A.testBit r then sdf (jm u r) (barr u t r) else 0) (hR v) := ors_congr fun r _ => by rw [hj r, f_barr hs]
  rw [e, sw_seen hs, hs.1]
/-- the rows that were drawn, and the house that was told -/
theorem rl_con (h : OC o nd D nr Rw nw W F nR nD nG A B O Lm P φ Wk) (hc : CON v nR nD nG A B O Lm P φ Wk) (hm : Own_minute o = 0) : RLo o nd D nr Rw nw W F v := by
  obtain ⟨h1, ⟨r1, r2, r3, r4, r5, r6⟩, h3, h4, h5, h6, h7, h8⟩ := h
  obtain ⟨hx, eM, eR, eD, dd, eG, gg, ll⟩ := hc
  refine ⟨by rw [eD]; exact dc_eq h1 dd, ⟨by rw [eR]; exact r1, by rw [eR]; exact r2, by rw [eR]; exact r3, by omega, by omega, fun r hr => by rw [ll r (by omega)]; exact r6 r (by omega)⟩, ⟨by rw [eG]; exact wc_eq h3 (fun q hq => (gg q hq).1) (fun q hq => (gg q hq).2.2), fun q hq => by rw [(gg q (by omega)).2.1]; exact (h4 q (by omega)).1, by omega, hx.1.2.2.2.2.1, fun q hq => by rw [(gg q (by omega)).1]; exact (h8 q (by omega)).2.1⟩, by rw [hm, eM]; rfl, by omega⟩
theorem f_gap (hs : SW v vF) {r : Nat} {z : Int} (h : gapC (Sg vF r) (cyc vF) = z) : gapC (Sg v r) (cyc v) = z := by
  rw [sw_Sg hs, sw_cyc hs]
  exact h
/-- the whole law -/
theorem law_total (hL : L ≤ 100000) (xs : Nat → Int32) : N_law L xs = some () := by
  obtain ⟨v1, e1, -⟩ := con_begin (a := 1) (A := fA) (B := fB) (O := fO) (P := fP) (φ := fφ) (Wk := fW) (by omega) (by omega) House0
  have hT0 : TX Toks0 (fun _ => 0) [] := TX.nil rfl fun _ _ => rfl
  obtain ⟨t1, w1, e2, h2⟩ := word_q (g := GW0) hT0 (i := 25) (by decide) s25 fT_b (by have := fT_len; show 0 + fT.length ≤ 599; omega)
  rw [List.nil_append] at h2
  have hlen := fT_len
  obtain ⟨t2, w2, f, e3, h3, h4, h5, h6, h7⟩ := end_q (g := GW0) h2 (by omega)
  obtain ⟨f, rfl⟩ : ∃ n : Nat, f = (n : Int) := ⟨f.toNat, by omega⟩
  have hh0 : HQ Hist0 (fun _ => House0) 0 (fun _ => House0) := ⟨0, rfl, by omega, rfl, by omega, fun i hi => absurd hi (by omega)⟩
  obtain ⟨g, v, d, y, t3, Φ, Ψ, e4, j1, j2, j3, j4, hc, j6, j7⟩ := load_f (g := GW0) (ls := 0) (u := House0) (fun t ht => fixed_read ht House0) h3 hlen (by omega) (by omega) h2.1 h6 rfl hh0 v1 (fun _ => House0) (fun _ => House0)
  have hsw := f_sw hc
  have hx := j4.2
  have hok := hx.1
  obtain ⟨-, eM, eR, eD, dd, eG, gg, ll⟩ := id hc
  have hs0 : SI2 Φ (0 + 1) Sight0 := Or.inl rfl
  have hcy : cyc v = 4 := (sw_cyc hsw).trans (by decide +kernel)
  have q1 : GW_size 3 g v Sight0 = some (4, Sight0) := by rw [size_3 hok, hcy]; rfl
  have pl : ∀ q, q < 2 → ∀ t, place v q t = place vF q t := fun q hq t => (hsw.2.2 q (by omega)).2 t
  have q2 : GW_roomOf 0 2 g v = some 2 := by
    have := roomOf_m (g := g) hok (q := 0) (t := 2) (by omega) (by omega)
    rw [pl 0 (by omega), show place vF 0 2 = 2 by decide] at this
    exact this
  have q3 : GW_roomOf 1 0 g v = some 1 := by
    have := roomOf_m (g := g) hok (q := 1) (t := 0) (by omega) (by omega)
    rw [pl 1 (by omega), show place vF 1 0 = 1 by decide] at this
    exact this
  obtain ⟨s1, q4, m1⟩ := room_l1 (g := g) hok (hs0.ms j4.1 (by omega)) (r := 0) (by omega)
  rw [f_gap hsw (show gapC (Sg vF 0) (cyc vF) = 3 by decide +kernel)] at q4
  have hs1 := m1.si2 j4 hs0
  obtain ⟨s2, q5, m2⟩ := room_l1 (g := g) hok (hs1.ms j4.1 (by omega)) (r := 1) (by omega)
  rw [f_gap hsw (show gapC (Sg vF 1) (cyc vF) = 0 by decide +kernel)] at q5
  have hs2 := m2.si2 j4 hs1
  obtain ⟨s3, q6, m3⟩ := room_l1 (g := g) hok (hs2.ms j4.1 (by omega)) (r := 2) (by omega)
  rw [f_gap hsw (show gapC (Sg vF 2) (cyc vF) = 1 by decide +kernel)] at q6
  have hs3 := m3.si2 j4 hs2
  obtain ⟨s4, q7, m4⟩ := size_5 (g := g) hok (hs3.ms j4.1 (by omega))
  rw [(sw_worst hsw).trans (show worst vF = 3 by decide +kernel)] at q7
  have hs4 := m4.si2 j4 hs3
  have q8 : GW_meetings 0 1 g v = some 0 := by
    have := meetings_m (g := g) hok (a := 0) (b := 1) (by omega) (by omega)
    rw [if_neg (by omega), hcy, cnt_congr (q := meetB vF 0 1) (fun i _ => sw_meet hsw (by omega) (by omega) i), show cnt (meetB vF 0 1) 4 = 0 by decide +kernel] at this
    exact this
  have q9 : GW_passings 0 1 g v = some 2 := by
    have := passings_m (g := g) hok (a := 0) (b := 1) (by omega) (by omega)
    rw [if_neg (by omega), hcy, cnt_congr (q := passB vF 0 1) (fun i _ => sw_pass hsw (by omega) (by omega) i), show cnt (passB vF 0 1) 4 = 2 by decide +kernel] at this
    exact this
  obtain ⟨z1, z2, z3⟩ := dd 0 (by omega)
  have q10 : GW_closeDoor 0 g v y (fun _ => House0) = some (-3, v, y, fun _ => House0) := by
    have ht : 0 < cnt (thr v (hA v 0) (hB v 0)) (hG v) := cnt_pos.mpr ⟨0, by omega, by
      obtain ⟨p1, p2, p3⟩ := gg 0 (by omega)
      have p1' : hP v 0 = 4 := p1
      refine thr_of (s := 0) (by omega) (by omega) ?_
      rw [p1', z1, z2, p3 0 (by decide), p3 ((0 + 1) % 4) (by decide)]
      decide⟩
    have ho : cnt (obt v 0) (hD v) = 1 := by
      rw [eD, cnt_congr (q := fun i => decide (i = 0)) (fun i hi => by
        obtain ⟨a1, a2, a3⟩ := dd i hi
        unfold obt btw
        rw [a1, a2, a3, z1, z2]
        obtain rfl | rfl : i = 0 ∨ i = 1 := by omega
        · decide
        · decide)]
      decide
    rcases closeDoor_q (g := g) j4 j6 (d := 0) (by omega) with ⟨a1, -⟩ | ⟨-, -, -, a4⟩ | ⟨-, a2, -⟩
    · rw [z3] at a1; cases a1
    · exact a4
    · exact absurd ⟨ht, ho⟩ a2
  have hA : firstA v 2 0 = 4 := by
    unfold firstA
    rw [sw_seen hsw]
    decide +kernel
  have hSI : SI v 0 (firstA v 2 0) 1 = 0 := by
    rw [hA]
    show nx v (0 + 0) (SI v 0 4 0) = 0
    rw [f_nx hsw (f_jm hc)]
    show nx vF 0 4 = 0
    decide +kernel
  have hSz := SI_zero hSI
  obtain ⟨iv1, q11⟩ := arrival_m (g := g) hok (a := 2) (b := 0) (t := 0) (by omega) (by omega) (by omega) Intr0 (res := -1) (Or.inr ⟨fun k => by
    cases k with
    | zero =>
      show (firstA v 2 0).testBit 0 = false
      rw [hA]
      decide
    | succ k => rw [hSz (k + 1) (by omega), Nat.zero_testBit], rfl⟩)
  have q12 : GW_nextSeen 0 1 g v = some 4 := by
    have := nextSeen_m (g := g) hok (r := 0) (t := 1) (m0 := 3) (by omega) (by omega) (by omega) (by rw [sw_Sg hsw]; decide +kernel) (fun j hj => by
      rw [sw_Sg hsw]
      obtain rfl | rfl | rfl : j = 0 ∨ j = 1 ∨ j = 2 := by omega
      · decide +kernel
      · decide +kernel
      · decide +kernel)
    exact this
  obtain ⟨s5, q13, m5⟩ := gapFrom_m (g := g) hok (hs4.ms j4.1 (by omega)) (r := 0) (by omega)
  rw [sw_Sg hsw, sw_cyc hsw, show begC (Sg vF 0) (cyc vF) = 1 by decide +kernel] at q13
  have hs5 := m5.si2 j4 hs4
  obtain ⟨s6, q14, m6⟩ := size_6 (g := g) hok (hs5.ms j4.1 (by omega))
  have hlate : cnt (late v) (hR v) = 0 := by
    rw [eR, cnt_congr (q := fun _ => false) (fun r hr => by
      unfold late
      rw [ll r hr]
      obtain rfl | rfl | rfl : r = 0 ∨ r = 1 ∨ r = 2 := by omega
      · rw [f_gap hsw (show gapC (Sg vF 0) (cyc vF) = 3 by decide +kernel)]; decide
      · rw [f_gap hsw (show gapC (Sg vF 1) (cyc vF) = 0 by decide +kernel)]; decide
      · rw [f_gap hsw (show gapC (Sg vF 2) (cyc vF) = 1 by decide +kernel)]; decide)]
    decide
  rw [hlate] at q14
  have hs6 := m6.si2 j4 hs5
  obtain ⟨iv2, q15⟩ := hiding_m (g := g) hok (a := 2) (t := 0) (k := 1) (by omega) (by omega) (by omega) iv1
  rw [hSI] at q15
  obtain ⟨o, nD, D, nR, Rw, nG, W, F, k1, k2, k3⟩ := drawn_q hL xs
  obtain ⟨g', v', d', y', t', w', Φ', Ψ', r1, r2, r3, r4, r5, r6, r7, r8⟩ := tell_q (g := g) k2 (TX.nil j7 h7) j1 j6 v d Φ Ψ
  have hs7 : SI2 Φ' (0 + 1 + 1) s6 := hs6.mono (by omega) r3
  obtain ⟨s8, iv3, u1, u2⟩ := isSound_s (g := g') r5.2 (hs7.ms r5.1 (by omega)) 99 iv2
  have hs8 := u2.si2 r5 hs7
  obtain ⟨y2, u0, u3, u4, u5⟩ := keep_q r7 House0 v'
  obtain ⟨s9, u6, u7⟩ := all_s (g := g') r5.2.1 (hs8.ms r5.1 (by omega))
  have hs9 := u7.si2 r5 hs8
  have hrooms : Own_rooms o = I (nR : Int) := k2.2.1.1
  have hfin := law235 (L := L) (xs := xs) (vS := v') (u0 := u0) (x4 := dig v') hL rfl 28 0 FU (by omega) (by unfold FU; omega) g' Best0 House0 Sight0 y2 (fun _ => House0) v' t' iv3 QRead0 (fun _ => 0) (fun _ => 0) d' s9 Sight0 w' o nD D F nR Rw nG W (fun _ => 0) (0 + 1 + 218 + 1 + 64 + 1) (0 + 14 + 6043 + 6 + 600 + 10) 0 ⟨Φ', Ψ', 0 + 1 + 1, _, ⟨r5, r2, u4, hs9, Or.inl rfl, r8, rl_con k2 r6 k3⟩, u5, r5, by omega, by rw [r6.2.1]; omega, fun i hi => absurd hi (by omega), by omega, fun i hi => absurd hi (by omega)⟩ (by omega) (by omega)
  have e1' : House_begin 1 House0 = some v1 := e1
  have c3 : I ((3 : Nat) : Int) = 3 := rfl
  have q4' : GW_room 0 1 g v Sight0 = some (3, s1) := q4
  have q5' : GW_room 1 1 g v s1 = some (0, s2) := q5
  have q6' : GW_room 2 1 g v s2 = some (1, s3) := q6
  have q7' : GW_size 5 g v s3 = some (3, s4) := q7
  have q11' : GW_arrival 2 0 0 g v Intr0 = some (-1, iv1) := q11
  have q13' : GW_gapFrom 0 g v s4 = some (1, s5) := q13
  have q14' : GW_size 6 g v s5 = some (0, s6) := q14
  have q15' : GW_hiding 2 0 1 g v iv1 = some (0, iv2) := q15
  unfold N_law
  rw [gd_t (by decide), gd_t (by decide), e1', bind_s, gd_t (by decide), e2, bind_s]
  dsimp only
  rw [e3, bind_s]
  dsimp only
  rw [e4, bind_s]
  dsimp only
  rw [c3, if_pos rfl, q1, bind_s]
  dsimp only
  rw [if_pos rfl, q2, bind_s, if_pos rfl, q3, bind_s, if_pos rfl, q4', bind_s]
  dsimp only
  rw [if_pos rfl, q5', bind_s]
  dsimp only
  rw [if_pos rfl, q6', bind_s]
  dsimp only
  rw [if_pos rfl, q7', bind_s]
  dsimp only
  rw [if_pos rfl, q8, bind_s, if_pos rfl, q9, bind_s, if_pos rfl, q10, bind_s]
  dsimp only
  rw [if_pos rfl, q11', bind_s]
  dsimp only
  rw [if_pos rfl, q12, bind_s, if_pos rfl, q13', bind_s]
  dsimp only
  rw [if_pos rfl, q14', bind_s]
  dsimp only
  rw [if_pos rfl, q15', bind_s]
  dsimp only
  rw [if_pos rfl, gd_t (by decide), k1, bind_s]
  dsimp only
  rw [r1, bind_s]
  dsimp only
  rw [hrooms, if_pos rfl, u1, bind_s]
  dsimp only
  rw [bif_t]
  unfold GW_saveSnapshot
  rw [u3, bind_s, bind_s]
  dsimp only
  rw [u6, bind_s, gd_t (by decide)]
  dsimp only
  exact hfin
end LAWD
